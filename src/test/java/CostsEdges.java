/** Promises 14 to 18 and their Terms, sentence by sentence: READINGS, KINDS, FORMS, ODDS. */
final class CostsEdges {
    private static final long LOST = Long.MIN_VALUE;
    /** Its fact 3 (0, 1) costs just as much as a reading can tell. */
    private static final String THOUSAND = "d4;w7j200;w9t13;w9j122;w9c30;w9t01,221,331,333,302";

    private final Check check;

    CostsEdges(Check check) {
        this.check = check;
    }

    void run() {
        numbers();
        whatIsRead();
        readingRefuses();
        readingsStay();
        back();
        kinds();
        forms();
        kindsAndFormsChangeNothing();
        odds();
    }

    private void numbers() {
        check.says(0, "READINGS, 8 at most, numbered by how many there are:");
        check.says(14, "A READING: its number.");
        RoundRules x = Check.of("d1");
        for (int k = 0; k < 8; k++) {
            check.due("as many as there are ahead of it", x.reading(0, 0, 0, -9), k);
            check.due("so many", x.many(4), k + 1);
        }
        check.due("FULL", x.reading(0, 0, 0, -9), -4);
        x.back(1);
        check.due("the eighth again", x.reading(0, 0, 0, 0), 7);
        check.due("FULL again", x.reading(0, 0, 0, 0), -4);
        x.back(8);
        check.due("the first again", x.reading(0, 0, 0, 0), 0);
        check.due("the same once more is another", x.reading(0, 0, 0, 0), 1);
    }

    private int kindsBy(RoundRules x, int q, int two, int c) {
        x.reading(q, two / 4, two % 4, c);
        int set = x.kinds(0);
        x.back(1);
        return set;
    }

    private void whatIsRead() {
        check.says(0, "CHEAP of a FACT is c (NONE: it does not HOLD).");
        RoundRules x = Check.of("d2;p5c10,000");
        check.due("a told one costs 0", kindsBy(x, 0, 0, 0), 7);
        check.due("it holds", kindsBy(x, 0, 0, -9), 0);
        check.due("it does not cost 1", kindsBy(x, 0, 0, 1), 0);
        check.due("one that does not hold", kindsBy(x, 0, 1, -9), 7);
        check.due("it costs nothing that is a cost", kindsBy(x, 0, 1, 0), 0);
        check.due("by a PLAIN rule", kindsBy(x, 1, 0, 5), 1);
        check.due("by a BULKY rule", kindsBy(x, 1, 0, 6), 2);
        check.due("by a DOUBLE rule", kindsBy(x, 1, 0, 10), 4);
        RoundRules dear = Check.of(THOUSAND);
        check.due("a thousand", dear.ofFact(3, 0, 1, 3), 1000);
        check.due("as great as can be told", kindsBy(dear, 3, 1, 1000), 4);
        check.due("one less", kindsBy(dear, 3, 1, 999), 0);
        Model m = new Model();
        m.program(THOUSAND);
        m.settle();
        check.due("the second model", m.ofFact(new Model.Fact(3, 0, 1), 3), 1000);
    }

    private void readingRefuses() {
        check.says(14, "UNKNOWN: RELATION; OUTSIDE: x, y, c (0 .. 1000, NONE); FULL.");
        RoundRules x = Check.of("d2");
        int[] far = {-1, 4, Integer.MIN_VALUE, Integer.MAX_VALUE};
        for (int v : far) {
            check.due("UNKNOWN ahead of OUTSIDE", x.reading(v, v, v, -1), -1);
            check.due("OUTSIDE x", x.reading(1, v, 3, 0), -2);
            check.due("OUTSIDE y", x.reading(1, 3, v, 0), -2);
        }
        check.due("UNKNOWN", x.reading(2, 0, 0, 0), -1);
        int[] noCost = {-1, -2, -8, -10, -11, 1001, Integer.MIN_VALUE, Integer.MAX_VALUE};
        for (int c : noCost) {
            check.due("OUTSIDE c " + c, x.reading(1, 3, 3, c), -2);
        }
        check.due("none of these is one", x.many(4), 0);
        int[] costs = {0, 1, 999, 1000, -9};
        for (int k = 0; k < 5; k++) {
            check.due("c " + costs[k], x.reading(1, 3, 3, costs[k]), k);
        }
        for (int k = 5; k < 8; k++) {
            check.due("more", x.reading(0, 0, 0, 0), k);
        }
        check.due("UNKNOWN ahead of FULL", x.reading(2, 0, 0, 0), -1);
        check.due("OUTSIDE ahead of FULL", x.reading(0, 4, 0, 0), -2);
        check.due("OUTSIDE ahead of FULL", x.reading(0, 0, 4, 0), -2);
        check.due("OUTSIDE ahead of FULL", x.reading(0, 0, 0, 1001), -2);
        check.due("FULL", x.reading(0, 0, 0, 0), -4);
        check.due("UNKNOWN without a program", new RoundRules().reading(0, 0, 0, 0), -1);
    }

    private void readingsStay() {
        RoundRules x = Check.of("d2;p5c10,000");
        x.reading(1, 0, 0, 5);
        check.due("so", x.kinds(0), 1);
        x.tell(0, 0, 0);
        check.due("not so any more", x.kinds(0), 0);
        x.tell(1, 0, 0);
        check.due("nor of a told one", x.kinds(0), 0);
        x.tell(1, 0, 0);
        x.tell(0, 0, 0);
        check.due("so again", x.kinds(0), 1);
        check.due("a text with a fault leaves them", Check.program(x, "d5"), -101);
        check.due("so still", x.kinds(0), 1);
        check.due("one that goes round too", Check.program(x, "d1;p1n000"), -200);
        check.due("one is left", x.many(4), 1);
        check.due("a text takes them", Check.program(x, "d2;p5c10"), 1);
        check.due("none is left", x.many(4), 0);
        check.due("all kinds again", x.kinds(0), 7);
    }

    private void back() {
        check.says(15, "The last n READINGS (0 .. as many as there are) are taken back: how many are left. OUTSIDE.");
        RoundRules x = Check.of("d2;p5c10,000");
        int[] far = {-1, 1, 9, Integer.MIN_VALUE, Integer.MAX_VALUE};
        for (int n : far) {
            check.due("of none", x.back(n), -2);
        }
        check.due("none of none", x.back(0), 0);
        int[] costs = {5, -9, 0, 1, 2, 3, 4, 6};
        for (int k = 0; k < 8; k++) {
            x.reading(1, 0, k == 1 ? 1 : 0, costs[k]);
        }
        check.due("one too many", x.back(9), -2);
        check.due("below", x.back(-1), -2);
        check.due("all are left", x.back(0), 8);
        check.due("not all are so", x.kinds(0), 0);
        check.due("the last five", x.back(5), 3);
        check.due("still not", x.kinds(0), 0);
        check.due("the last", x.back(1), 2);
        check.due("the first two are so", x.kinds(0), 1);
        check.due("one too many", x.back(3), -2);
        check.due("all", x.back(2), 0);
        check.due("of none", x.back(1), -2);
        check.due("without a program", new RoundRules().back(0), 0);
        check.due("without a program", new RoundRules().back(1), -2);
    }

    private void kinds() {
        check.says(0, "All that follows: in place of what it is alone, by which the PROGRAM is LAYERED and all READINGS are so: "
                + "KINDS of a RULE: 0 .. 2;");
        check.says(16, "KINDS, as a set. UNKNOWN.");
        for (int kind = 0; kind < 3; kind++) {
            RoundRules x = Check.of("d2;" + "pbw".charAt(kind) + "5c10;b9j111,000");
            check.due("no readings", x.kinds(0), 7);
            x.reading(1, 0, 0, 10);
            check.due("whatever it is now", x.kinds(0), 4);
            // alone: the other rule stays of the kind it is
            check.due("the other one", x.kinds(1), kind == 2 ? 7 : 0);
            x.reading(1, 0, 0, 6);
            check.due("both can't be", x.kinds(0), 0);
        }
        // of PRICE 1 BULKY and DOUBLE cost alike, of PRICE 9 none
        RoundRules one = Check.of("d2;p1c10,000");
        one.reading(1, 0, 0, 2);
        check.due("either", one.kinds(0), 6);
        RoundRules nine = Check.of("d2;p9c10,000");
        nine.reading(1, 0, 0, 18);
        check.due("DOUBLE", nine.kinds(0), 4);
        // a rule by which nothing follows may be of any
        RoundRules idle = Check.of("d2;p1c10,000,100");
        idle.reading(1, 0, 0, 0);
        check.due("any", idle.kinds(0), 7);
        RoundRules five = Check.of("d1;p1c00;p1c00;p1c00;p1c00;p1c00");
        check.due("the last rule", five.kinds(4), 7);
        int[] far = {-1, 5, Integer.MIN_VALUE, Integer.MAX_VALUE};
        for (int r : far) {
            check.due("UNKNOWN", five.kinds(r), -1);
        }
        check.due("UNKNOWN without a program", new RoundRules().kinds(0), -1);
        check.due("UNKNOWN without rules", Check.of("d1").kinds(0), -1);
    }

    private void forms() {
        check.says(0, "FORMS: 0, 1 of one without OTHER, 2, 3 of one with it; as sets.");
        check.says(17, "FORMS, as a set. UNKNOWN.");
        RoundRules x = Check.of("d4;p1c10;p1t10;p1j201;p1n201;p1j333,001");
        int[] due = {3, 3, 12, 12, 4};
        for (int r = 0; r < 5; r++) {
            check.due("no readings, rule " + r, x.forms(r), due[r]);
        }
        x.reading(1, 0, 1, -9);
        int[] turned = {2, 0, 0, 0, 0};
        for (int r = 0; r < 5; r++) {
            check.due("1 (0, 1) does not hold, rule " + r, x.forms(r), turned[r]);
        }
        x.back(1);
        x.reading(2, 0, 0, 2);
        // joined of 0 (0, 1) and 1 (1, 0), by rule 2 as it is; both of form j do too
        int[] joined = {3, 2, 4, 12, 4};
        for (int r = 0; r < 5; r++) {
            check.due("2 (0, 0) costs 2, rule " + r, x.forms(r), joined[r]);
        }
        // of a rule in a round only what is layered, though a reading would ask for the other
        RoundRules round = Check.of("d3;p1j102;p1c21,000");
        check.due("layered", round.forms(0), 4);
        round.reading(1, 0, 0, 1);
        check.due("not layered", round.forms(0), 0);
        int[] far = {-1, 5, Integer.MIN_VALUE, Integer.MAX_VALUE};
        for (int r : far) {
            check.due("UNKNOWN", x.forms(r), -1);
        }
        check.due("UNKNOWN without a program", new RoundRules().forms(0), -1);
        check.due("UNKNOWN without rules", Check.of("d1").forms(0), -1);
    }

    private static RoundRules read() {
        RoundRules x = Check.of("d4;p1c10;b1t10;w1j201;p1n201;p1j333,001,333");
        x.reading(2, 0, 0, 3);
        x.reading(1, 0, 1, 1);
        return x;
    }

    private void kindsAndFormsChangeNothing() {
        Still still = new Still(check, CostsEdges::read);
        // 2 (0, 0) costs 4 as it is: 3, if rule 1 or rule 2 were PLAIN, or rule 3 of form j
        int[] kinds = {0, 1, 1, 0, 0};
        int[] forms = {0, 0, 0, 4, 0};
        for (int r = 0; r < 5; r++) {
            int rule = r;
            still.due("kinds", x -> x.kinds(rule), kinds[r], 0);
            still.due("forms", x -> x.forms(rule), forms[r], 0);
        }
    }

    private void odds() {
        check.says(0, "ODDS of a RELATION: of all sixteen twos of THINGS, all alike, the share of those that HOLD in it.");
        check.says(18, "ODDS (which 0 the upper, 1 the lower number). LOST: UNKNOWN; OUTSIDE.");
        RoundRules x = Check.of("d4");
        for (int many = 0; many <= 16; many++) {
            long upper = x.odds(3, 0);
            long lower = x.odds(3, 1);
            check.due("the share of " + many, upper * 16, many * lower);
            check.due("the lower number is above 0", lower > 0);
            check.due("in least terms", java.math.BigInteger.valueOf(upper)
                    .gcd(java.math.BigInteger.valueOf(lower)).longValue(), 1);
            check.due("of another relation", x.odds(2, 0), 0);
            check.due("of another relation", x.odds(2, 1), 1);
            if (many < 16) {
                x.tell(3, many / 4, many % 4);
            }
        }
        // of what holds, not of what is told alone
        RoundRules follows = Check.of("d2;p1c10;p1t10,001,002,003");
        check.due("six hold", follows.odds(1, 0), 3);
        check.due("of sixteen", follows.odds(1, 1), 8);
        int[] far = {-1, 2, Integer.MIN_VALUE, Integer.MAX_VALUE};
        for (int v : far) {
            check.due("OUTSIDE", follows.odds(0, v), LOST);
            check.due("UNKNOWN", follows.odds(v, 0), LOST);
        }
        check.due("UNKNOWN without a program", new RoundRules().odds(0, 0), LOST);
    }
}
