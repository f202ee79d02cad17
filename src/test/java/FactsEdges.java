/** Promises 6 to 8 and the Terms on DAYS, sentence by sentence: tell, ofFact, day. */
final class FactsEdges {
    private final Check check;

    FactsEdges(Check check) {
        this.check = check;
    }

    void run() {
        tell();
        tellRefuses();
        ofFact();
        ofFactTellsNone();
        ofFactRefuses();
        dayOfFacts();
        dayOfForms();
        firstWrong();
        layeredAtEachAct();
        dayChangesNothing();
        dayAnswers();
        lanesOfDays();
        dayRefuses();
        dayFaults();
        dayOfNoActs();
    }

    private void tell() {
        check.says(0, "FACTS are TOLD, taken back.");
        check.says(6, "A FACT is TOLD, if it was not; else it is TOLD no more: 1, 0.");
        RoundRules x = Check.of("d4");
        for (int fact = 0; fact < 64; fact++) {
            check.due("told", x.tell(fact / 16, fact / 4 % 4, fact % 4), 1);
            check.due("so many", x.many(3), fact + 1);
        }
        for (int fact = 63; fact >= 0; fact--) {
            check.due("told no more", x.tell(fact / 16, fact / 4 % 4, fact % 4), 0);
            check.due("so many", x.many(3), fact);
        }
        check.due("told again", x.tell(3, 3, 3), 1);
        // what follows is not told, and can be
        RoundRules y = Check.of("d2;p1c10,033");
        check.due("1 (3, 3) follows, and is told", y.tell(1, 3, 3), 1);
        check.due("it costs nothing", y.ofFact(1, 3, 3, 3), 0);
        check.due("the one it follows from is taken back", y.tell(0, 3, 3), 0);
        check.due("it still holds", y.ofFact(1, 3, 3, 0), 1);
        check.due("and it too", y.tell(1, 3, 3), 0);
        check.due("nothing is left", y.many(2), 0);
        // what is told can take away what follows
        RoundRules z = Check.of("d3;p1n201,000");
        check.due("2 (0, 0) holds", z.ofFact(2, 0, 0, 0), 1);
        check.due("tell 1 (0, 0)", z.tell(1, 0, 0), 1);
        check.due("2 (0, 0) does not", z.ofFact(2, 0, 0, 0), 0);
        check.due("take it back", z.tell(1, 0, 0), 0);
        check.due("2 (0, 0) holds again", z.ofFact(2, 0, 0, 0), 1);
    }

    private void tellRefuses() {
        check.says(6, "UNKNOWN: RELATION; OUTSIDE: x, y (0 .. 3).");
        RoundRules x = Check.of("d2");
        int[] far = {-1, 4, Integer.MIN_VALUE, Integer.MAX_VALUE};
        for (int v : far) {
            check.due("UNKNOWN ahead of OUTSIDE", x.tell(v, v, v), -1);
            check.due("OUTSIDE", x.tell(1, v, 3), -2);
            check.due("OUTSIDE", x.tell(1, 3, v), -2);
        }
        check.due("UNKNOWN", x.tell(2, 0, 0), -1);
        check.due("none is told", x.many(3), 0);
        check.due("the last", x.tell(1, 3, 3), 1);
        check.due("the first", x.tell(0, 0, 0), 1);
    }

    private void fact(RoundRules x, int q, int two, int... due) {
        for (int what = 0; what < 6; what++) {
            check.due("ofFact(" + q + ", " + two / 4 + ", " + two % 4 + ", " + what + ")",
                    x.ofFact(q, two / 4, two % 4, what), due[what]);
        }
    }

    private void ofFact() {
        check.says(7, "Of a FACT: 0 whether it HOLDS (1, 0), 1 whether it is TOLD, 2 BORN, 3 CHEAP, 4 LAST, 5 MIDDLE");
        RoundRules x = Check.of("d3;w9c10;b1t11;p9j211;p1n221,003");
        // 1 (0, 3) for 18; 1 (3, 0) for 2 more; 2 (0, 0) = 1 (0, 3) and 1 (3, 0), for 47, at 3; 2 (3, 3) at 0
        fact(x, 0, 3, 1, 1, 0, 0, -9, -9);
        fact(x, 1, 3, 1, 0, 1, 18, 0, -9);
        fact(x, 1, 12, 1, 0, 2, 20, 1, -9);
        fact(x, 2, 0, 1, 0, 3, 47, 2, 3);
        fact(x, 2, 15, 1, 0, 3, 47, 2, 0);
        fact(x, 2, 3, 0, 0, -9, -9, -9, -9);
    }

    private void ofFactTellsNone() {
        check.says(7, "(2 to 5 NONE: it does not HOLD; 4, 5 also: it is TOLD; 5 also: LAST is not of form j).");
        RoundRules x = Check.of("d2;p1j100;p1c10,000,100");
        fact(x, 1, 0, 1, 1, 0, 0, -9, -9);
        x.tell(1, 0, 0);
        fact(x, 1, 0, 1, 0, 1, 1, 0, 0);
        x.tell(0, 0, 0);
        fact(x, 1, 0, 0, 0, -9, -9, -9, -9);
        // of two rules alike the least is LAST; it is not of form j, so there is no MIDDLE
        RoundRules y = Check.of("d2;p1c10;p1j100,000");
        fact(y, 1, 0, 1, 0, 1, 1, 0, -9);
        RoundRules z = Check.of("d3;p1n102,033");
        fact(z, 1, 15, 1, 0, 1, 1, 0, -9);
    }

    private void ofFactRefuses() {
        check.says(7, "UNKNOWN: RELATION; OUTSIDE: x, y, what.");
        RoundRules x = Check.of("d2,133");
        int[] far = {-1, 6, Integer.MIN_VALUE, Integer.MAX_VALUE};
        for (int v : far) {
            check.due("UNKNOWN ahead of OUTSIDE", x.ofFact(v, v, v, v), -1);
            check.due("OUTSIDE", x.ofFact(1, v, 3, 0), -2);
            check.due("OUTSIDE", x.ofFact(1, 3, v, 0), -2);
            check.due("OUTSIDE", x.ofFact(1, 3, 3, v), -2);
        }
        check.due("UNKNOWN", x.ofFact(2, 0, 0, 0), -1);
        check.due("OUTSIDE", x.ofFact(1, 4, 3, 0), -2);
        check.due("OUTSIDE", x.ofFact(1, 3, 4, 0), -2);
        check.due("the last", x.ofFact(1, 3, 3, 0), 1);
    }

    private void dayOfFacts() {
        check.says(0, "0 .. 3 and x, y: that FACT is TOLD, if it was not; else it is TOLD no more;");
        RoundRules x = Check.of("d4,000");
        for (int q = 0; q < 4; q++) {
            check.due("told", Check.day(x, 4, q, 3, 3), 2);
            check.due("told and taken back", Check.day(x, 4, q, 3, 3, q, 3, 3), 1);
            check.due("told, back, told", Check.day(x, 10 + q, q, 3, 3, q, 3, 3, q, 3, 3), q == 0 ? 2 : 1);
        }
        check.due("one of the text is taken back", Check.day(x, 4, 0, 0, 0), 0);
        check.due("the same is told again", Check.day(x, 4, 0, 0, 0, 0, 0, 0), 1);
    }

    private void dayOfForms() {
        check.says(0, "10 and r (10 .. 14), a form (0 .. 3), any number: RULE r gets that form.");
        RoundRules x = Check.of("d3;p1c10;p1c10;p1c10;p1c10;p1j201,001,112");
        check.due("as they are", Check.day(x, 0), 4);
        int[] numbers = {0, -1, 4, 99, Integer.MIN_VALUE, Integer.MAX_VALUE};
        for (int any : numbers) {
            for (int r = 0; r < 4; r++) {
                check.due("one more is turned", Check.day(x, 11, 10 + r, 1, any), 3);
            }
            check.due("all are turned", Check.day(x, 11, 10, 1, any, 11, 1, any, 12, 1, any, 13, 1, any), 2);
            check.due("and the last but not", Check.day(x, 12, 14, 3, any), 0);
            check.due("turned, and but not", Check.day(x, 12, 10, 1, 0, 11, 1, 0, 12, 1, 0, 13, 1, 0, 14, 3, any), 1);
        }
    }

    private void wrong(RoundRules x, int first, int... threes) {
        int[] whats = {0, 2, 3, 4, 10, 11, 12, 13};
        check.due("FIRST WRONG", Check.day(x, 1, threes), first);
        for (int what : whats) {
            check.due("what " + what, Check.day(x, what, threes), first == -9 ? Check.day(x, what, threes) : -100 - first);
        }
        check.due("no fault", x.fault(), 0);
    }

    private void firstWrong() {
        check.says(0, "FIRST WRONG: the first act that can't be (there is no such RELATION, RULE; x, y no THINGS; a form that "
                + "has no OTHER for one that has, or the other way about; no form; the PROGRAM would not be LAYERED).");
        RoundRules x = Check.of("d3;p1c10;p1t10;p1j201;p1j222,001");
        wrong(x, -9, 2, 3, 3);
        wrong(x, 0, 3, 0, 0);
        wrong(x, -9, 13, 2, 0);
        wrong(x, 0, 14, 0, 0);
        int[] noThing = {-1, 4, Integer.MIN_VALUE, Integer.MAX_VALUE};
        for (int v : noThing) {
            wrong(x, 0, 0, v, 0);
            wrong(x, 0, 0, 0, v);
            wrong(x, 0, 10, v, 0);
            wrong(x, 0, 12, v, 0);
        }
        for (int form = 0; form < 4; form++) {
            wrong(x, form < 2 ? -9 : 0, 10, form, 0);
            wrong(x, form < 2 ? -9 : 0, 11, form, 0);
            wrong(x, form < 2 ? 0 : -9, 12, form, 0);
            wrong(x, form == 2 ? -9 : 0, 13, form, 0);
        }
        // the first of several, and the last of twenty
        wrong(x, 1, 0, 0, 0, 3, 0, 0, 14, 0, 0, 0, 4, 0);
        int[] twenty = new int[60];
        wrong(x, -9, twenty);
        twenty[57] = 3;
        wrong(x, 19, twenty);
        RoundRules bare = Check.of("d1");
        wrong(bare, 0, 10, 0, 0);
        wrong(bare, 0, 1, 0, 0);
        wrong(bare, -9, 0, 3, 3);
    }

    private void layeredAtEachAct() {
        RoundRules x = Check.of("d3;p1n120;p1j212,011");
        wrong(x, -9, 10, 2, 0, 10, 3, 0);
        // each of the two leads back to the other, so the act that mends it comes too late
        RoundRules z = Check.of("d3;p1j102;p1j201,011");
        wrong(z, 0, 10, 3, 0, 10, 2, 0);
        wrong(z, 1, 0, 0, 0, 11, 3, 0, 11, 2, 0);
        RoundRules u = Check.of("d4;p1j102;p1j213,011");
        wrong(u, -9, 11, 3, 0);
        wrong(u, 0, 10, 3, 0);
    }

    private void dayChangesNothing() {
        check.says(0, "A DAY told: a row of threes, one behind another, from how all is now (nothing is changed):");
        int[] threes = {10, 1, 0, 11, 3, 0, 0, 0, 1, 1, 3, 3, 2, 2, 2};
        int[] cutShort = {10, 1, 0, 11, 3, 0, 0, 0, 1, 3, 3, 3};
        new Still(check, () -> with(threes)).due("a day", x -> x.day(0, 2, 0, 5, 4), 4, 0);
        new Still(check, () -> with(threes)).due("its wrong", x -> x.day(0, 2, 0, 5, 1), -9, 0);
        new Still(check, () -> with(cutShort)).due("a wrong day", x -> x.day(0, 2, 0, 4, 0), -103, 0);
        new Still(check, () -> with(cutShort)).due("its wrong", x -> x.day(0, 2, 0, 4, 1), 3, 0);
        RoundRules x = with(threes);
        check.due("a day", x.day(0, 2, 0, 5, 4), 4);
        check.due("once more, from how all is now", x.day(0, 2, 0, 5, 4), 4);
        x.tell(0, 3, 0);
        check.due("and with one fact more", x.day(0, 2, 0, 5, 4), 5);
        x.tell(1, 3, 3);
        check.due("and with one it takes back", x.day(0, 2, 0, 5, 4), 4);
    }

    private static RoundRules with(int[] threes) {
        RoundRules x = Check.of("d3;p2c10;b3j110;w1n201,001,012,023");
        x.reading(1, 0, 1, 2);
        x.speak(2);
        Check.fill(x, 0, 2, threes);
        return x;
    }

    private void dayAnswers() {
        check.says(8, "A DAY of n threes, that are cells of a SHEET from i on (3 n): how many FACTS HOLD then (what 0), its "
                + "FIRST WRONG (1; NONE), how many ROUNDS there are then (2), the greatest CHEAP then (3; 0: no FACT HOLDS), "
                + "how many are TOLD then (4), how many FACTS of RELATION q HOLD then (10 and q; NONE: there is no such "
                + "RELATION);");
        RoundRules x = Check.of("d3;p2c10;b3j110;w9n201,001,012,023");
        // told at first: 1 (0, 1), (1, 2), (2, 3) for 2, joined for 6, then 10 in three rounds; of 2 nothing
        int[] whats = {0, 1, 2, 3, 4, 10, 11, 12, 13};
        int[] now = {9, -9, 3, 10, 3, 3, 6, 0, -9};
        // without rule 0: of 2 what 0 is, in one round, for 18
        int[] turned = {9, -9, 2, 18, 3, 3, 3, 3, -9};
        int[] nothing = {0, -9, 0, 0, 0, 0, 0, 0, -9};
        int[] onlyTold = {1, -9, 0, 0, 1, 0, 0, 1, -9};
        for (int k = 0; k < whats.length; k++) {
            check.due("no act, what " + whats[k], Check.day(x, whats[k]), now[k]);
            check.due("other forms, what " + whats[k], Check.day(x, whats[k], 10, 1, 0, 11, 3, 0), turned[k]);
            check.due("all back, what " + whats[k], Check.day(x, whats[k], 0, 0, 1, 0, 1, 2, 0, 2, 3), nothing[k]);
            check.due("one told, what " + whats[k], Check.day(x, whats[k], 0, 0, 1, 0, 1, 2, 0, 2, 3, 2, 0, 0),
                    onlyTold[k]);
        }
        check.due("the very first fact is the dearest", Check.day(Check.of("d2;p5c01,100"), 3), 5);
        check.due("the very last fact is the dearest", Check.day(Check.of("d4;p5c32,233"), 3), 5);
        RoundRules four = Check.of("d4,333");
        check.due("of relation 3", Check.day(four, 13), 1);
        RoundRules one = Check.of("d1,033");
        int[] due = {1, -9, -9, -9};
        for (int q = 0; q < 4; q++) {
            check.due("of relation " + q, Check.day(one, 10 + q), due[q]);
        }
        check.says(8, "of one with a FIRST WRONG: -100 less that (but what 1).");
        check.due("ahead of NONE", Check.day(one, 13, 1, 0, 0), -100);
        check.due("what 1", Check.day(one, 1, 1, 0, 0), 0);
    }

    private void lanesOfDays() {
        RoundRules x = Check.of("d2");
        for (int lane = 0; lane < 3; lane++) {
            Check.fill(x, 1, lane, 9, 9, 1, 3, 3, 0, 2, 2, 9);
            check.due("from its middle", x.day(1, lane, 2, 2, 4), 2);
            check.due("the first alone", x.day(1, lane, 2, 1, 11), 1);
            check.due("none", x.day(1, lane, 2, 0, 4), 0);
            check.due("up to the end", x.day(1, lane, 3, 2, 1), 0);
        }
        // cut to bytes and shorts the numbers are acts and things, in ints they are not
        int[] byLane = {1, 1, -2};
        for (int lane = 0; lane < 3; lane++) {
            Check.fill(x, 1, lane, 65536 + 1, 65536 + 3, -65536 + 2);
            check.due("cut numbers", x.day(1, lane, 0, 1, 4), byLane[lane]);
        }
        int[] wrongs = {-9, 0, 0};
        for (int lane = 0; lane < 3; lane++) {
            Check.fill(x, 1, lane, 1, 256 + 3, 2);
            check.due("a cut thing", x.day(1, lane, 0, 1, 1), wrongs[lane]);
        }
    }

    private void dayRefuses() {
        check.says(8, "UNKNOWN: SHEET; OUTSIDE: lane, n (0 .. 20), what (0 .. 4, 10 .. 13);");
        RoundRules x = Check.of("d2");
        x.sheet(0, 2, 60);
        int[] far = {-1, 4, Integer.MIN_VALUE, Integer.MAX_VALUE};
        for (int v : far) {
            check.due("UNKNOWN ahead of all", x.day(v, 9, -1, -1, -1), -1);
            check.due("OUTSIDE lane, ahead of NULL", x.day(1, v == 4 ? 3 : v, -1, 1, 0), -2);
            check.due("OUTSIDE n, ahead of NULL", x.day(1, 0, -1, v == 4 ? 21 : v, 0), -2);
            check.due("fault", x.fault(), 0);
        }
        check.due("n of twenty", x.day(0, 2, 0, 20, 1), -9);
        check.due("n of twenty-one", x.day(0, 2, 0, 21, 1), -2);
        check.due("n of none", x.day(0, 2, 60, 0, 1), -9);
        for (int what = -3; what < 20; what++) {
            boolean isAsked = what >= 0 && what <= 4 || what >= 10 && what <= 13;
            check.due("what " + what, (x.day(0, 2, 0, 0, what) != -2) == isAsked);
            check.due("what " + what + " ahead of NULL", x.day(1, 2, 0, 0, what), isAsked ? -11 : -2);
        }
        check.due("what", x.day(0, 2, 0, 0, Integer.MIN_VALUE), -2);
        check.due("what", x.day(0, 2, 0, 0, Integer.MAX_VALUE), -2);
    }

    private void dayFaults() {
        check.says(8, "FAULTS CAST, NULL, INDEX; STATE: there is no PROGRAM;");
        RoundRules x = new RoundRules();
        for (int lane = 0; lane < 3; lane++) {
            check.due("nothing is NULL as any lane", x.day(0, lane, 99, 20, 0), -11);
            check.due("fault", x.fault(), 1);
        }
        x.sheet(0, 1, 6);
        for (int lane = 0; lane < 3; lane++) {
            check.due("CAST ahead of INDEX", x.day(0, lane, 99, 20, 0), lane == 1 ? -13 : -12);
            check.due("fault", x.fault(), lane == 1 ? 3 : 2);
        }
        int[][] beyond = {{0, 3}, {1, 2}, {4, 1}, {6, 1}, {7, 0}, {-1, 0}, {-1, 1}, {-3, 2}, {Integer.MAX_VALUE, 0},
            {Integer.MAX_VALUE, 20}, {Integer.MIN_VALUE, 20}, {0, 20}, {6, 20}};
        for (int[] at : beyond) {
            check.due("INDEX ahead of STATE", x.day(0, 1, at[0], at[1], 0), -13);
            check.due("fault", x.fault(), 3);
        }
        int[][] within = {{0, 2}, {3, 1}, {6, 0}, {0, 0}};
        for (int[] at : within) {
            check.due("STATE", x.day(0, 1, at[0], at[1], 0), -3);
            check.due("fault", x.fault(), 0);
        }
        x.put(0, 0, 7);
        check.due("STATE ahead of an act that is none", x.day(0, 1, 0, 2, 0), -3);
        Check.program(x, "d1");
        for (int[] at : beyond) {
            check.due("INDEX ahead of an act that is none", x.day(0, 1, at[0], at[1], 0), -13);
        }
        check.due("an act that is none", x.day(0, 1, 0, 2, 0), -2);
        check.due("behind it all are", x.day(0, 1, 3, 1, 0), 1);
    }

    private void dayOfNoActs() {
        check.says(8, "OUTSIDE: the first of a three is not 0 .. 3, 10 .. 14.");
        RoundRules x = Check.of("d4;p1c00;p1c00;p1c00;p1c00;p1c00");
        for (int first = -130; first < 130; first++) {
            boolean isAct = first >= 0 && first <= 3 || first >= 10 && first <= 14;
            check.due("first " + first, Check.day(x, 1, first, 0, 0), isAct ? -9 : -2);
        }
        int[] far = {Integer.MIN_VALUE, Integer.MAX_VALUE, 256, 65536 + 10};
        for (int first : far) {
            check.due("first " + first, Check.day(x, 1, first, 0, 0), -2);
        }
        check.due("the second and third may be anything", Check.day(x, 1, 10, 0, 77, 0, 77, 77), 1);
        check.due("the last three's first", Check.day(x, 1, 0, 0, 0, 10, 0, 0, 4, 0, 0), -2);
        check.due("behind a FIRST WRONG too", Check.day(x, 1, 0, 9, 9, 4, 0, 0), -2);
        check.due("only of those that are taken", dayOfOne(x), -9);
    }

    private static int dayOfOne(RoundRules x) {
        Check.fill(x, 0, 2, 0, 0, 0, 4, 0, 0);
        return x.day(0, 2, 0, 1, 1);
    }
}
