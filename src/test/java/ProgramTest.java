/** Promises 1 to 5: a new object, program, ofRule, ofRelation, form. */
public final class ProgramTest {
    private static final Check check = new Check("ProgramTest");

    public static void main(String[] args) {
        aNewObject();
        textsThatAreTaken();
        firstFaults();
        lanesOfTexts();
        goingRound();
        faultsOfProgram();
        allIsMadeAnew();
        ofRule();
        ofRelation();
        form();
        check.end();
    }

    private static void aNewObject() {
        RoundRules x = new RoundRules();
        for (int what = 0; what < 5; what++) {
            check.due("many of a new object", x.many(what), 0);
        }
        for (int k = 0; k < 4; k++) {
            check.due("lose of a new object", x.lose(k), 0);
        }
        check.due("trace of a new object", x.trace(), 0);
        check.due("fault of a new object", x.fault(), 0);
        check.due("rounds of a new object", x.rounds(), -3);
        check.due("LOST", RoundRules.LOST, Long.MIN_VALUE);
    }

    private static void taken(String text, int rules) {
        check.due(text, Check.program(new RoundRules(), text), rules);
    }

    private static void textsThatAreTaken() {
        taken("d1", 0);
        taken("d4", 0);
        taken("d1,000", 0);
        taken("d2;p1c10", 1);
        taken("d4;w9n321", 1);
        taken("d1;p1c00;b2t00;w3j000;p4c00;p5c00,000,001,002,003,033", 5);
        taken(Check.EXAMPLE, 4);
    }

    private static void faultAt(String text, int place) {
        RoundRules x = Check.of("d2;p1c10,001");
        check.due(text, Check.program(x, text), -100 - place);
        check.due(text + " changes no relation", x.many(0), 2);
        check.due(text + " changes no rule", x.many(1), 1);
        check.due(text + " changes no fact", x.many(3), 1);
        check.due(text + " is no fault of the machine", x.fault(), 0);
    }

    private static void firstFaults() {
        faultAt("", 0);
        faultAt("x1", 0);
        faultAt("d", 1);
        faultAt("d0", 1);
        faultAt("d5", 1);
        faultAt("d2x", 2);
        faultAt("d22", 2);
        faultAt("d2;", 3);
        faultAt("d2;c", 3);
        faultAt("d2;p", 4);
        faultAt("d2;p0", 4);
        faultAt("d2;b:", 4);
        faultAt("d2;w9", 5);
        faultAt("d2;w9p", 5);
        faultAt("d2;w9c", 6);
        faultAt("d2;w9c2", 6);
        faultAt("d2;w9c1", 7);
        faultAt("d2;w9c12", 7);
        faultAt("d2;w9c111", 8);
        faultAt("d2;w9j11", 8);
        faultAt("d2;w9n112", 8);
        faultAt("d2;w9j11;", 8);
        faultAt("d2,", 3);
        faultAt("d2,2", 3);
        faultAt("d2,1", 4);
        faultAt("d2,14", 4);
        faultAt("d2,104", 5);
        faultAt("d2,10", 5);
        faultAt("d2,1000", 6);
        faultAt("d2,100;p1c00", 6);
        faultAt("d2,100,", 7);
        faultAt("d2,100,100", 9);
        faultAt("d2,100,101,100", 13);
        faultAt("d1;p1c00;p1c00;p1c00;p1c00;p1c00;p1c00", 32);
        faultAt("d1;p1c00;p1c00;p1c00;p1c00;p1c00;", 32);
        faultAt("d1,000,001,002,003,010,011", 22);
        faultAt("d1,000,001,002,003,010,", 22);
    }

    private static void lanesOfTexts() {
        RoundRules x = new RoundRules();
        Check.fill(x, 0, 1, Check.codes("xxd1,023yy"));
        check.due("a text in shorts, from its middle", x.program(0, 1, 2, 6), 0);
        check.due("its fact", x.ofFact(0, 2, 3, 1), 1);
        Check.fill(x, 0, 2, 'd' + 256, '1');
        check.due("a number that only ends like a code", x.program(0, 2, 0, 2), -100);
        Check.fill(x, 0, 2, 'd' + 65536, '1');
        check.due("a number that only ends like a code", x.program(0, 2, 0, 2), -100);
        Check.fill(x, 0, 2, 'd', Integer.MIN_VALUE + '1');
        check.due("a number far below a digit", x.program(0, 2, 0, 2), -101);
        Check.fill(x, 0, 0, 'd' + 256, '1' - 256);
        check.due("numbers cut to bytes", x.program(0, 0, 0, 2), 0);
    }

    private static void roundBy(String text, int relation) {
        RoundRules x = Check.of("d2;p1c10,001");
        check.due(text, Check.program(x, text), -200 - relation);
        check.due(text + " changes nothing", x.many(0) * 100 + x.many(1) * 10 + x.many(3), 211);
        check.due(text + " is no fault of the machine", x.fault(), 0);
    }

    private static void goingRound() {
        roundBy("d1;p1n000", 0);
        roundBy("d2;p1n101", 1);
        roundBy("d3;p1n201;p1c12", 1);
        roundBy("d3;p1n201;p1j102", 1);
        roundBy("d4;p1c13;p1c21;p1n302", 1);
        roundBy("d3;p1n221;p1n112", 1);
        // 0 leads back to itself past OTHER 2 only by going through 1 twice
        roundBy("d4;p1c10;p1c01;p1c21;p1n132", 0);
        // 0 leads into the circle of 1 and 2, but not back
        roundBy("d4;p1c10;p1c21;p1n132", 1);
        // 1 and 2 go round, but past no OTHER of form n; 0 is ahead of both
        taken("d3;p1n210;p1c12", 2);
        taken("d3;p1n220", 1);
    }

    private static void faultsOfProgram() {
        RoundRules x = new RoundRules();
        check.due("program(4, 0, 0, 2)", x.program(4, 0, 0, 2), -1);
        check.due("program(-1, 9, 0, 2)", x.program(-1, 9, 0, 2), -1);
        check.due("program(0, 3, 0, 2)", x.program(0, 3, 0, 2), -2);
        check.due("program(0, -1, 0, 2)", x.program(0, -1, 0, 2), -2);
        check.due("nothing is no CAST, but NULL", x.program(0, 2, 0, -1), -11);
        check.due("fault", x.fault(), 1);
        Check.fill(x, 0, 1, 'd', '1');
        check.due("CAST ahead of SIZE", x.program(0, 0, 5, -1), -12);
        check.due("fault", x.fault(), 2);
        check.due("SIZE ahead of INDEX", x.program(0, 1, 5, -1), -14);
        check.due("fault", x.fault(), 4);
        check.due("INDEX: too many", x.program(0, 1, 0, 3), -13);
        check.due("INDEX: below", x.program(0, 1, -1, 2), -13);
        check.due("INDEX: beyond, though none is taken", x.program(0, 1, 3, 0), -13);
        check.due("INDEX: far", x.program(0, 1, Integer.MAX_VALUE, Integer.MAX_VALUE), -13);
        check.due("fault", x.fault(), 3);
        check.due("no cells at the end", x.program(0, 1, 2, 0), -100);
        check.due("fault", x.fault(), 0);
        check.due("a text", x.program(0, 1, 0, 2), 0);
        check.due("refused", x.program(0, 1, 0, 9), -13);
        check.due("refused", x.program(9, 1, 0, 9), -1);
        check.due("fault of a refused call", x.fault(), 0);
    }

    private static void allIsMadeAnew() {
        RoundRules x = Check.of(Check.EXAMPLE);
        x.reading(0, 0, 0, 5);
        x.tell(2, 3, 3);
        check.due("a new text", Check.program(x, "d1;p1c00,011"), 1);
        check.due("relations", x.many(0), 1);
        check.due("rules", x.many(1), 1);
        check.due("facts that hold", x.many(2), 1);
        check.due("facts told", x.many(3), 1);
        check.due("readings", x.many(4), 0);
    }

    private static void ofRule() {
        RoundRules x = Check.of("d4;p7c32;b7t10;w7j123;w9n320");
        int[][] due = {{0, 7, 7, 0, 3, 2, -9}, {1, 7, 8, 1, 1, 0, -9}, {2, 7, 14, 2, 1, 2, 3}, {2, 9, 18, 3, 3, 2, 0}};
        for (int r = 0; r < 4; r++) {
            for (int what = 0; what < 7; what++) {
                check.due("ofRule(" + r + ", " + what + ")", x.ofRule(r, what), due[r][what]);
            }
            check.due("ofRule: OUTSIDE", x.ofRule(r, 7), -2);
            check.due("ofRule: OUTSIDE", x.ofRule(r, -1), -2);
        }
        check.due("ofRule: UNKNOWN", x.ofRule(4, 7), -1);
        check.due("ofRule: UNKNOWN", x.ofRule(-1, 0), -1);
    }

    private static void ofRelation() {
        RoundRules x = Check.of("d4;p1n100;p1n211;p1n322;p1c32,001,123,300,301");
        int[][] due = {{0, 1, 1, 0}, {1, 1, 1, 1}, {2, 0, 0, 2}, {3, 2, 2, 12}};
        for (int q = 0; q < 4; q++) {
            for (int what = 0; what < 4; what++) {
                check.due("ofRelation(" + q + ", " + what + ")", x.ofRelation(q, what), due[q][what]);
            }
        }
        check.due("ofRelation: OUTSIDE", x.ofRelation(0, 4), -2);
        check.due("ofRelation: OUTSIDE", x.ofRelation(0, -1), -2);
        check.due("ofRelation: UNKNOWN", x.ofRelation(4, 4), -1);
        check.due("ofRelation: UNKNOWN", x.ofRelation(-1, 0), -1);
        RoundRules y = Check.of("d4;p1j301;p1n132;p1c02");
        int[] around = {0, 1, 0, 1};
        for (int q = 0; q < 4; q++) {
            check.due("layer of " + q, y.ofRelation(q, 0), around[q]);
        }
        RoundRules z = Check.of("d4;p1n012;p1n123;p1c20");
        check.due("2 is below 0 and no less than it: it goes round", z.many(0), 0);
        RoundRules u = Check.of("d4;p1n012;p1n230;p1c13");
        check.due("so do 0 and 2", u.many(0), 0);
        RoundRules v = Check.of("d4;p1n032;p1n203;p1j130");
        check.due("and still", v.many(0), 0);
    }

    private static void form() {
        RoundRules x = Check.of("d3;p1c10;p1j201;p1j222,012");
        check.due("form(0, 1)", x.form(0, 1), 0);
        check.due("turned", x.ofFact(1, 2, 1, 0), 1);
        check.due("no more as it is", x.ofFact(1, 1, 2, 0), 0);
        check.due("form(0, 1) again", x.form(0, 1), 1);
        check.due("form(1, 3)", x.form(1, 3), 2);
        check.due("but where not", x.ofFact(2, 1, 2, 0), 1);
        check.due("its layer", x.ofRelation(2, 0), 1);
        check.due("form(2, 3): STATE", x.form(2, 3), -3);
        check.due("it keeps its form", x.ofRule(2, 3), 2);
        check.due("layers stay", x.ofRelation(2, 0), 1);
        check.due("form(0, 2): OUTSIDE", x.form(0, 2), -2);
        check.due("form(0, -1): OUTSIDE", x.form(0, -1), -2);
        check.due("form(1, 1): OUTSIDE", x.form(1, 1), -2);
        check.due("form(1, 4): OUTSIDE", x.form(1, 4), -2);
        check.due("form(3, 9): UNKNOWN", x.form(3, 9), -1);
        check.due("form(-1, 0): UNKNOWN", x.form(-1, 0), -1);
        check.due("form(1, 2)", x.form(1, 2), 3);
        check.due("its layer", x.ofRelation(2, 0), 0);
    }
}
