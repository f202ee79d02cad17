/** The Terms on REFUSALS and FAULTS: each of them, of each call, and that it changes nothing. */
final class RefusalEdges {
    private static final long LOST = Long.MIN_VALUE;

    private final Check check;

    RefusalEdges(Check check) {
        this.check = check;
    }

    void run() {
        check.says(0, "REFUSALS, in the order in which a call's line tells them:");
        check.due("UNKNOWN", RoundRules.UNKNOWN, -1);
        check.due("OUTSIDE", RoundRules.OUTSIDE, -2);
        check.due("STATE", RoundRules.STATE, -3);
        check.due("FULL", RoundRules.FULL, -4);
        check.says(0, "NONE is -9.");
        check.due("NONE", RoundRules.NONE, -9);
        unknown();
        outside();
        ofCallsThatNameFaults();
        state();
        full();
        faults();
        textsThatAreNotTaken();
    }

    /** Sheet 0: three shorts; 1: no ints; 2: nothing; 3: a text in bytes. All readings; fault() tells 1. */
    private static RoundRules busy() {
        RoundRules x = Check.of("d3;p2c10;b3j111;w1n201;p4t11,001,012,023,033");
        Check.fill(x, 0, 1, 700, 1, 2);
        x.sheet(1, 2, 0);
        for (int k = 0; k < 8; k++) {
            x.reading(0, 0, k % 4, k % 4 == 1 ? 0 : -9);
        }
        x.speak(2);
        x.quote(0);
        x.put(2, 0, 0);
        return x;
    }

    /** As much as there can be without a program. */
    private static RoundRules idle() {
        RoundRules x = new RoundRules();
        Check.fill(x, 0, 1, 0, 1, 2);
        x.put(2, 0, 0);
        return x;
    }

    /** Calls that name no faults leave fault() as it was. */
    private void unknown() {
        check.says(0, "UNKNOWN (there is no such RELATION, RULE, SHEET, place of a row)");
        Still still = new Still(check, RefusalEdges::busy);
        int[] noRule = {-1, 4, Integer.MIN_VALUE, Integer.MAX_VALUE};
        for (int r : noRule) {
            still.due("ofRule", x -> x.ofRule(r, 0), -1, 1);
            still.due("form", x -> x.form(r, 0), -1, 1);
            still.due("kinds", x -> x.kinds(r), -1, 1);
            still.due("forms", x -> x.forms(r), -1, 1);
            still.due("speak", x -> x.speak(r), -1, 1);
            still.due("quote", x -> x.quote(r), -1, 1);
            still.due("as", x -> x.as(r, 0), -1, 0);
            still.due("lose", x -> x.lose(r), -1, 1);
        }
        int[] noRelation = {-1, 3, Integer.MIN_VALUE, Integer.MAX_VALUE};
        for (int q : noRelation) {
            still.due("ofRelation", x -> x.ofRelation(q, 0), -1, 1);
            still.due("tell", x -> x.tell(q, 0, 0), -1, 1);
            still.due("ofFact", x -> x.ofFact(q, 0, 0, 0), -1, 1);
            still.due("ranked", x -> x.ranked(q, 0), -1, 1);
            still.due("demands", x -> x.demands(q, 0), -1, 1);
            still.due("reading", x -> x.reading(q, 0, 0, 0), -1, 1);
            still.due("odds", x -> x.odds(q, 0), LOST, 1);
        }
    }

    private void outside() {
        check.says(0, "OUTSIDE (another number is not as told)");
        Still still = new Still(check, RefusalEdges::busy);
        int[] wrong = {-1, 9, Integer.MIN_VALUE, Integer.MAX_VALUE};
        for (int v : wrong) {
            still.due("ofRule", x -> x.ofRule(0, v), -2, 1);
            still.due("ofRelation", x -> x.ofRelation(0, v), -2, 1);
            still.due("form", x -> x.form(0, v), -2, 1);
            still.due("tell, x", x -> x.tell(0, v, 0), -2, 1);
            still.due("tell, y", x -> x.tell(0, 0, v), -2, 1);
            still.due("ofFact, x", x -> x.ofFact(0, v, 0, 0), -2, 1);
            still.due("ofFact, y", x -> x.ofFact(0, 0, v, 0), -2, 1);
            still.due("ofFact, what", x -> x.ofFact(0, 0, 0, v), -2, 1);
            still.due("demands", x -> x.demands(0, v), -2, 1);
            still.due("reading, x", x -> x.reading(0, v, 0, 0), -2, 1);
            still.due("reading, y", x -> x.reading(0, 0, v, 0), -2, 1);
            still.due("back", x -> x.back(v), -2, 1);
            still.due("odds", x -> x.odds(0, v), LOST, 1);
            still.due("as", x -> x.as(0, v), -2, 0);
            still.due("many", x -> x.many(v), -2, 1);
        }
        int[] below = {-1, -9, Integer.MIN_VALUE};
        for (int k : below) {
            still.due("born", x -> x.born(k), -2, 1);
            still.due("ranked", x -> x.ranked(0, k), -2, 1);
            still.due("settled", x -> x.settled(k), -2, 1);
        }
    }

    private void ofCallsThatNameFaults() {
        check.says(0, "they change nothing (but fault(), of a call that names FAULTS).");
        Still still = new Still(check, RefusalEdges::busy);
        int[] wrong = {-1, 4, Integer.MIN_VALUE, Integer.MAX_VALUE};
        for (int v : wrong) {
            still.due("program, sheet", x -> x.program(v, 0, 0, 2), -1, 0);
            still.due("program, lane", x -> x.program(3, v, 0, 2), -2, 0);
            still.due("day, sheet", x -> x.day(v, 1, 0, 0, 0), -1, 0);
            still.due("day, lane", x -> x.day(0, v, 0, 0, 0), -2, 0);
            still.due("sheet, which", x -> x.sheet(v, 0, 1), -1, 0);
            still.due("sheet, lane", x -> x.sheet(0, v, 1), -2, 0);
            still.due("put", x -> x.put(v, 0, 1), -1, 0);
            still.due("cell, sheet", x -> x.cell(v, 0, 1), LOST, 0);
            still.due("cell, lane", x -> x.cell(0, 0, v), LOST, 0);
            still.due("copy, the first", x -> x.copy(v, 0, 0, 0, 1), -1, 0);
            still.due("copy, the other", x -> x.copy(0, 0, v, 0, 1), -1, 0);
        }
        still.due("day, n", x -> x.day(0, 1, 0, 21, 0), -2, 0);
        still.due("day, what", x -> x.day(0, 1, 0, 1, 5), -2, 0);
        still.due("day, its act", x -> x.day(0, 1, 0, 1, 0), -2, 0);
        still.due("sheet, n", x -> x.sheet(0, 1, 61), -2, 0);
    }

    private void state() {
        check.says(0, "STATE (as told)");
        Still none = new Still(check, RefusalEdges::idle);
        none.due("day", x -> x.day(0, 1, 0, 1, 0), -3, 0);
        none.due("rounds", x -> x.rounds(), -3, 1);
        none.due("born", x -> x.born(0), -3, 1);
        none.due("settled", x -> x.settled(0), -3, 1);
        new Still(check, RefusalEdges::busy).due("form", x -> x.form(1, 3), -3, 1);
    }

    private void full() {
        check.says(0, "FULL;");
        Still still = new Still(check, RefusalEdges::busy);
        still.due("reading", x -> x.reading(0, 0, 0, -9), -4, 1);
        still.due("reading", x -> x.reading(2, 3, 3, 1000), -4, 1);
    }

    private void faults() {
        check.says(0, "it answers -10 less it (LOST, where a long is answered, as for refusals) and changes nothing; "
                + "fault() tells it.");
        Still still = new Still(check, RefusalEdges::busy);
        still.due("program, NULL", x -> x.program(2, 0, 0, 2), -11, 1);
        still.due("program, CAST", x -> x.program(0, 0, 0, 2), -12, 2);
        still.due("program, INDEX", x -> x.program(3, 0, 0, 60), -13, 3);
        still.due("program, SIZE", x -> x.program(3, 0, 0, -1), -14, 4);
        still.due("day, NULL", x -> x.day(2, 0, 0, 0, 0), -11, 1);
        still.due("day, CAST", x -> x.day(0, 0, 0, 0, 0), -12, 2);
        still.due("day, INDEX", x -> x.day(0, 1, 0, 2, 0), -13, 3);
        still.due("sheet, SIZE", x -> x.sheet(0, 0, -1), -14, 4);
        still.due("put, NULL", x -> x.put(2, 0, 5), -11, 1);
        still.due("put, INDEX", x -> x.put(0, 3, 5), -13, 3);
        still.due("cell, NULL", x -> x.cell(2, 0, 0), LOST, 1);
        still.due("cell, CAST", x -> x.cell(0, 0, 0), LOST, 2);
        still.due("cell, INDEX", x -> x.cell(0, 3, 1), LOST, 3);
        still.due("copy, NULL", x -> x.copy(0, 0, 2, 0, 1), -11, 1);
        still.due("copy, CAST", x -> x.copy(0, 0, 3, 0, 1), -12, 2);
        still.due("copy, INDEX", x -> x.copy(0, 0, 0, 3, 1), -13, 3);
        still.due("as, CAST", x -> x.as(0, 1), -12, 2);
        emptyRows(still);
    }

    private void emptyRows(Still still) {
        check.says(0, "FAULTS are the machine's: 1 NULL (there is nothing), 2 CAST (it is of another lane, kind), "
                + "3 INDEX (of cells from i on also where i is not 0 .. how many there are, if none of them is taken, "
                + "too), 4 SIZE (a length below 0).");
        still.due("an empty row has no cell", x -> x.cell(1, 0, 2), LOST, 3);
        still.due("an empty row takes none", x -> x.put(1, 0, 5), -13, 3);
        still.due("none from 0 on", x -> x.program(1, 2, 0, 0), -100, 0);
        still.due("none from 1 on", x -> x.program(1, 2, 1, 0), -13, 3);
        still.due("none from -1 on", x -> x.program(1, 2, -1, 0), -13, 3);
        still.due("a day of none at the end", x -> x.day(0, 1, 3, 0, 1), -9, 0);
        still.due("a day of none behind the end", x -> x.day(0, 1, 4, 0, 1), -13, 3);
        still.due("a day of none ahead", x -> x.day(0, 1, -1, 0, 1), -13, 3);
        still.due("copy none to the end", x -> x.copy(0, 3, 0, 3, 0), 0, 0);
        still.due("copy none from behind", x -> x.copy(0, 4, 0, 0, 0), -13, 3);
        still.due("copy none to behind", x -> x.copy(0, 0, 0, 4, 0), -13, 3);
        still.due("copy none of an empty row", x -> x.copy(1, 0, 1, 0, 0), 0, 0);
        check.says(0, "Of a call the first that is come to, in the order told;");
        still.due("CAST ahead of SIZE and INDEX", x -> x.program(0, 2, -5, -5), -12, 2);
        still.due("NULL ahead of SIZE and INDEX", x -> x.program(2, 2, -5, -5), -11, 1);
        still.due("SIZE ahead of INDEX", x -> x.program(0, 1, -5, -5), -14, 4);
    }

    private void textsThatAreNotTaken() {
        check.says(2, "-100 less the FIRST FAULT; -200 less the RELATION by which it GOES ROUND.");
        new Still(check, () -> with("d2;p1c10,00")).due("a first fault", x -> x.program(1, 0, 0, 11), -111, 0);
        new Still(check, () -> with("d2;p1n011;p1n100,000")).due("a round", x -> x.program(1, 0, 0, 20), -200, 0);
        new Still(check, () -> with("")).due("no text", x -> x.program(1, 0, 0, 0), -100, 0);
    }

    /** A program, and on sheet 1 another text that was not looked at yet; fault() tells 0. */
    private static RoundRules with(String text) {
        RoundRules x = Check.of("d3;p2c10;b3j111;w1n201,001,012,023");
        x.reading(0, 0, 0, 5);
        Check.fill(x, 1, 0, Check.codes(text));
        return x;
    }
}
