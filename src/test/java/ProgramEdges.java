/** Promises 1 to 5, sentence by sentence: a new object, program, ofRule, ofRelation, form. */
final class ProgramEdges {
    private static final long LOST = Long.MIN_VALUE;

    private final Check check;

    ProgramEdges(Check check) {
        this.check = check;
    }

    void run() {
        noProgram();
        noSheets();
        programAnswers();
        programRefuses();
        programFaults();
        ofRule();
        ofRelation();
        form();
        formRefuses();
        formIsSettledAnew();
    }

    private void noProgram() {
        check.says(1, "No PROGRAM (no RELATIONS, RULES, FACTS)");
        RoundRules x = new RoundRules();
        for (int k = 0; k < 4; k++) {
            check.due("no relation " + k, x.ofRelation(k, 0), -1);
            check.due("no rule " + k, x.ofRule(k, 0), -1);
            check.due("no fact of " + k, x.ofFact(k, 0, 0, 0), -1);
            check.due("none can be told of " + k, x.tell(k, 0, 0), -1);
            check.due("none is asked for of " + k, x.demands(k, 0), -1);
            check.due("nothing is ranked of " + k, x.ranked(k, 0), -1);
            check.due("nothing is read of " + k, x.reading(k, 0, 0, 0), -1);
            check.due("no odds of " + k, x.odds(k, 0), LOST);
            check.due("no form of " + k, x.form(k, 0), -1);
            check.due("no kinds of " + k, x.kinds(k), -1);
            check.due("no forms of " + k, x.forms(k), -1);
            check.due("nothing is spoken of " + k, x.speak(k), -1);
            check.due("nothing is quoted of " + k, x.quote(k), -1);
            check.due("nothing is of a kind of " + k, x.as(k, 0), -1);
        }
        check.due("rounds", x.rounds(), -3);
        check.due("born", x.born(0), -3);
        check.due("settled", x.settled(0), -3);
        check.due("readings back", x.back(0), 0);
        check.due("trace", x.trace(), 0);
        check.due("fault: as came ahead of it and was refused", x.fault(), 0);
    }

    private void noSheets() {
        check.says(1, "SHEETS have nothing.");
        for (int k = 0; k < 4; k++) {
            RoundRules x = new RoundRules();
            check.due("put", x.put(k, 0, 0), -11);
            check.due("copy", x.copy(k, 0, k, 0, 0), -11);
            for (int lane = 0; lane < 3; lane++) {
                check.due("cell", x.cell(k, 0, lane), LOST);
                check.due("its fault", x.fault(), 1);
                check.due("program", x.program(k, lane, 0, 0), -11);
                check.due("day", x.day(k, lane, 0, 0, 0), -11);
            }
            check.due("lose", x.lose(k), 0);
        }
        RoundRules first = Check.of("d2,000");
        check.due("objects share nothing", new RoundRules().many(0), 0);
        check.due("objects share nothing", first.many(0), 2);
    }

    private void programAnswers() {
        check.says(2, "A PROGRAM by a TEXT of n cells of a SHEET from i on, taken as a row of a LANE: how many RULES;");
        String text = "d2;p1c10;p1t01,000";
        for (int k = 0; k < 4; k++) {
            for (int lane = 0; lane < 3; lane++) {
                RoundRules x = new RoundRules();
                Check.fill(x, k, lane, Check.codes("d" + text + "0"));
                check.due("a text from its middle", x.program(k, lane, 1, text.length()), 2);
                check.due("its fact", x.many(3), 1);
                check.due("a text that stops ahead", x.program(k, lane, 1, 8), 1);
                check.due("no fact", x.many(3), 0);
                check.due("one cell more", x.program(k, lane, 1, text.length() + 1), -100 - text.length());
                check.due("one cell ahead", x.program(k, lane, 0, text.length()), -101);
                check.due("the row is as it was", x.cell(k, 1, lane), 'd');
            }
        }
        check.says(2, "-100 less the FIRST FAULT;");
        RoundRules far = new RoundRules();
        int[] late = new int[60];
        System.arraycopy(Check.codes("d1"), 0, late, 58, 2);
        Check.fill(far, 0, 1, late);
        check.due("the last two of sixty", far.program(0, 1, 58, 2), 0);
        check.due("places are counted from i on", far.program(0, 1, 58, 1), -101);
        check.due("the last but one is no text", far.program(0, 1, 57, 3), -100);
        check.due("none behind the last", far.program(0, 1, 60, 0), -100);
        check.says(2, "-200 less the RELATION by which it GOES ROUND.");
        String[] rounds = {"d1;p1n000", "d2;p1n101", "d3;p1n202", "d4;p1n303"};
        for (int q = 0; q < 4; q++) {
            check.due(rounds[q], Check.program(new RoundRules(), rounds[q]), -200 - q);
        }
    }

    private void programRefuses() {
        check.says(2, "UNKNOWN; OUTSIDE: lane;");
        RoundRules x = Check.of("d1");
        int[] off = {-1, 4, Integer.MIN_VALUE, Integer.MAX_VALUE};
        for (int k : off) {
            check.due("UNKNOWN ahead of all", x.program(k, 9, -1, -1), -1);
            check.due("fault", x.fault(), 0);
        }
        int[] lanes = {-1, 3, Integer.MIN_VALUE, Integer.MAX_VALUE};
        for (int lane : lanes) {
            check.due("OUTSIDE ahead of NULL, SIZE", x.program(0, lane, -1, -1), -2);
            check.due("fault", x.fault(), 0);
            check.due("OUTSIDE ahead of SIZE", x.program(3, lane, -1, -1), -2);
        }
    }

    private void programFaults() {
        check.says(2, "FAULTS CAST (nothing is no CAST), NULL, SIZE: n is below 0, INDEX: not all cells are there; then these.");
        RoundRules x = new RoundRules();
        for (int row = 0; row < 3; row++) {
            for (int lane = 0; lane < 3; lane++) {
                check.due("nothing is NULL as any lane", x.program(0, lane, 0, 0), -11);
                Check.fill(x, 1, row, 'd', '1');
                check.due("CAST, of unlike lanes alone", x.program(1, lane, 0, 2), row == lane ? 0 : -12);
                check.due("fault", x.fault(), row == lane ? 0 : 2);
            }
        }
        Check.fill(x, 1, 1, 'd', '1');
        check.due("CAST ahead of SIZE", x.program(1, 0, 0, -1), -12);
        check.due("CAST ahead of INDEX", x.program(1, 0, 9, 9), -12);
        check.due("CAST ahead of a FIRST FAULT", x.program(1, 0, 0, 1), -12);
        check.due("NULL ahead of SIZE", x.program(0, 0, 0, -1), -11);
        check.due("NULL ahead of INDEX", x.program(0, 0, 9, 9), -11);
        int[] below = {-1, -2, -60, Integer.MIN_VALUE};
        for (int n : below) {
            check.due("SIZE", x.program(1, 1, 0, n), -14);
            check.due("SIZE ahead of INDEX", x.program(1, 1, 3, n), -14);
            check.due("SIZE ahead of INDEX", x.program(1, 1, -1, n), -14);
            check.due("fault", x.fault(), 4);
        }
        int[][] beyond = {{0, 3}, {1, 2}, {2, 1}, {3, 0}, {-1, 0}, {-1, 1}, {-1, 3}, {0, Integer.MAX_VALUE},
            {Integer.MAX_VALUE, 0}, {Integer.MAX_VALUE, Integer.MAX_VALUE}, {Integer.MIN_VALUE, 0},
            {Integer.MIN_VALUE, Integer.MAX_VALUE}, {2, Integer.MAX_VALUE}, {1, Integer.MAX_VALUE}};
        for (int[] at : beyond) {
            check.due("INDEX", x.program(1, 1, at[0], at[1]), -13);
            check.due("fault", x.fault(), 3);
        }
        Check.fill(x, 1, 1, 'x', 'x');
        check.due("INDEX ahead of a FIRST FAULT", x.program(1, 1, 0, 3), -13);
        check.due("then a FIRST FAULT", x.program(1, 1, 0, 2), -100);
        check.due("fault", x.fault(), 0);
        check.due("of no cells", x.program(1, 1, 0, 0), -100);
        check.due("of no cells at the end", x.program(1, 1, 2, 0), -100);
    }

    private void ofRule() {
        check.says(3, "Of a RULE: 0 kind, 1 PRICE, 2 COST, 3 form, 4 HEAD, 5 BODY, 6 OTHER (NONE: it has none). "
                + "UNKNOWN; OUTSIDE.");
        RoundRules x = Check.of("d4;p1c03;b9t30;w9j322;w1n123;b1c00");
        int[][] due = {{0, 1, 1, 0, 0, 3, -9}, {1, 9, 10, 1, 3, 0, -9}, {2, 9, 18, 2, 3, 2, 2}, {2, 1, 2, 3, 1, 2, 3},
            {1, 1, 2, 0, 0, 0, -9}};
        for (int r = 0; r < 5; r++) {
            for (int what = 0; what < 7; what++) {
                check.due("ofRule(" + r + ", " + what + ")", x.ofRule(r, what), due[r][what]);
            }
            check.due("OUTSIDE", x.ofRule(r, 7), -2);
            check.due("OUTSIDE", x.ofRule(r, -1), -2);
        }
        int[] far = {-1, 5, Integer.MIN_VALUE, Integer.MAX_VALUE};
        for (int v : far) {
            check.due("UNKNOWN ahead of OUTSIDE", x.ofRule(v, 7), -1);
            check.due("OUTSIDE", x.ofRule(4, v < 0 ? v : v + 2), -2);
        }
        check.due("no fifth rule", Check.of("d1;p1c00;p1c00;p1c00;p1c00").ofRule(4, 0), -1);
        // a rule with OTHER 0 has one; after a form it still has
        RoundRules y = Check.of("d2;p1j100;p1c10");
        check.due("OTHER 0", y.ofRule(0, 6), 0);
        y.form(0, 3);
        check.due("OTHER 0 of form n", y.ofRule(0, 6), 0);
        y.form(1, 1);
        check.due("no OTHER of form t", y.ofRule(1, 6), -9);
    }

    private void ofRelation() {
        check.says(4, "Of a RELATION: 0 LAYER, 1 how many of its FACTS HOLD, 2 are TOLD, 3 RULES whose HEAD it is, as a set. "
                + "UNKNOWN; OUTSIDE.");
        RoundRules x = Check.of("d4;p1n110;p1n221;p1n332;p1c32;p1c32,000,111,222,333");
        int[][] due = {{0, 1, 1, 0}, {1, 1, 1, 1}, {2, 1, 1, 2}, {3, 2, 1, 28}};
        for (int q = 0; q < 4; q++) {
            for (int what = 0; what < 4; what++) {
                check.due("ofRelation(" + q + ", " + what + ")", x.ofRelation(q, what), due[q][what]);
            }
            check.due("OUTSIDE", x.ofRelation(q, 4), -2);
            check.due("OUTSIDE", x.ofRelation(q, -1), -2);
        }
        int[] far = {-1, 4, Integer.MIN_VALUE, Integer.MAX_VALUE};
        for (int v : far) {
            check.due("UNKNOWN ahead of OUTSIDE", x.ofRelation(v, 4), -1);
            check.due("OUTSIDE", x.ofRelation(3, v), -2);
        }
        RoundRules small = Check.of("d1;p1c00;p1c00;p1c00;p1c00;p1c00");
        check.due("all five rules", small.ofRelation(0, 3), 31);
        check.due("nothing holds", small.ofRelation(0, 1), 0);
        check.due("no relation 1", small.ofRelation(1, 0), -1);
        for (int two = 0; two < 16; two++) {
            small.tell(0, two / 4, two % 4);
        }
        check.due("all hold", small.ofRelation(0, 1), 16);
        check.due("all are told", small.ofRelation(0, 2), 16);
    }

    private void form() {
        check.says(0, "RULES get other forms.");
        check.says(5, "A RULE gets a form (0, 1 of one without OTHER; 2, 3 of one with it): which it had.");
        RoundRules x = Check.of("d3;p1c10;p1t10;p1j201;p1n201");
        for (int r = 0; r < 4; r++) {
            int had = r;
            for (int form = 0; form < 4; form++) {
                boolean fits = form / 2 == r / 2;
                check.due("form(" + r + ", " + form + ")", x.form(r, form), fits ? had : -2);
                had = fits ? form : had;
                check.due("it has it", x.ofRule(r, 3), had);
            }
            check.due("the form it has", x.form(r, had), had);
        }
    }

    private void formRefuses() {
        check.says(5, "UNKNOWN; OUTSIDE; STATE: the PROGRAM would not be LAYERED.");
        RoundRules x = Check.of("d3;p1c10;p1j201;p1j112");
        int[] far = {-1, 3, Integer.MIN_VALUE, Integer.MAX_VALUE};
        for (int v : far) {
            check.due("UNKNOWN ahead of OUTSIDE", x.form(v, 9), -1);
            check.due("OUTSIDE", x.form(0, v < 0 ? v : v + 1), -2);
            check.due("OUTSIDE", x.form(1, v == 3 ? 4 : v), -2);
        }
        check.due("STATE: 1 leads to 2, 2 back to 1", x.form(1, 3), -3);
        check.due("STATE: 2 leads to 1, 1 back to 2", x.form(2, 3), -3);
        check.due("OUTSIDE ahead of STATE", x.form(1, 1), -2);
        check.due("forms stay", x.ofRule(1, 3) + x.ofRule(2, 3), 4);
        check.due("layers stay", x.ofRelation(0, 0) + x.ofRelation(1, 0) + x.ofRelation(2, 0), 0);
        RoundRules self = Check.of("d1;p1j000");
        check.due("STATE: by itself", self.form(0, 3), -3);
        check.due("as it is", self.form(0, 2), 2);
        RoundRules two = Check.of("d2;p1n100;p1c11");
        check.due("n ahead of a round without n", two.form(0, 2), 3);
        check.due("and again n", two.form(0, 3), 2);
    }

    private void formIsSettledAnew() {
        RoundRules x = Check.of("d3;p2c10;p3j201,001,112");
        check.due("joined: 2 (0, 2)", x.ofFact(2, 0, 2, 3), 3);
        check.due("rounds", x.rounds(), 1);
        check.due("but not", x.form(1, 3), 2);
        check.due("2 (0, 2) is gone", x.ofFact(2, 0, 2, 0), 0);
        check.due("0 (0, 1) without 1 (0, 1) is nowhere", x.ofRelation(2, 1), 0);
        check.due("turned", x.form(0, 1), 0);
        check.due("1 (1, 0)", x.ofFact(1, 1, 0, 3), 2);
        check.due("so 2 (0, 1)", x.ofFact(2, 0, 1, 3), 3);
        check.due("readings stay", x.reading(0, 0, 0, 0), 0);
        x.form(0, 0);
        check.due("readings stay", x.many(4), 1);
    }
}
