/** Promises 14 to 18: reading, back, kinds, forms, odds. */
public final class CostsTest {
    private static final Check check = new Check("CostsTest");

    public static void main(String[] args) {
        reading();
        back();
        kinds();
        forms();
        odds();
        check.end();
    }

    private static void reading() {
        RoundRules x = Check.of(Check.PATHS);
        check.due("reading: UNKNOWN", x.reading(2, 9, 9, 9999), -1);
        check.due("reading: UNKNOWN", x.reading(-1, 0, 0, 0), -1);
        check.due("reading: OUTSIDE x", x.reading(0, 4, 0, 0), -2);
        check.due("reading: OUTSIDE x", x.reading(0, -1, 0, 0), -2);
        check.due("reading: OUTSIDE y", x.reading(0, 0, 4, 0), -2);
        check.due("reading: OUTSIDE y", x.reading(0, 0, -1, 0), -2);
        check.due("reading: OUTSIDE c", x.reading(0, 0, 0, 1001), -2);
        check.due("reading: OUTSIDE c", x.reading(0, 0, 0, -1), -2);
        check.due("reading: OUTSIDE c", x.reading(0, 0, 0, -10), -2);
        for (int k = 0; k < 8; k++) {
            check.due("reading", x.reading(0, k % 4, 0, k == 0 ? -9 : k == 1 ? 1000 : 0), k);
            check.due("readings", x.many(4), k + 1);
        }
        check.due("reading: OUTSIDE ahead of FULL", x.reading(0, 0, 0, 1001), -2);
        check.due("reading: FULL", x.reading(0, 0, 0, 0), -4);
        check.due("readings", x.many(4), 8);
    }

    private static void back() {
        RoundRules x = Check.of("d2;p3c10,001");
        check.due("back(0) of none", x.back(0), 0);
        check.due("back(1) of none", x.back(1), -2);
        x.reading(1, 0, 1, 4);
        x.reading(1, 0, 1, 6);
        x.reading(1, 0, 1, 7);
        check.due("back: OUTSIDE", x.back(4), -2);
        check.due("back: OUTSIDE", x.back(-1), -2);
        check.due("back(0)", x.back(0), 3);
        check.due("back(2)", x.back(2), 1);
        check.due("the first is left", x.kinds(0), 2);
        check.due("a number again", x.reading(1, 0, 0, -9), 1);
        check.due("back(2)", x.back(2), 0);
        check.due("none is left", x.kinds(0), 7);
    }

    private static int kindsBy(int c) {
        RoundRules x = Check.of("d2;p3c10,001");
        x.reading(1, 0, 1, c);
        return x.kinds(0);
    }

    private static void kinds() {
        check.due("a PLAIN one", kindsBy(3), 1);
        check.due("a BULKY one", kindsBy(4), 2);
        check.due("a DOUBLE one", kindsBy(6), 4);
        check.due("none", kindsBy(5), 0);
        check.due("none, for it holds", kindsBy(-9), 0);
        // of PRICE 1 BULKY and DOUBLE cost alike
        RoundRules x = Check.of("d2;w1c10;p9c10,001");
        check.due("no readings", x.kinds(1), 7);
        check.due("a reading", x.reading(1, 0, 1, 2), 0);
        check.due("either", x.kinds(0), 6);
        check.due("another rule may be of any kind", x.kinds(1), 7);
        check.due("a second reading", x.reading(1, 1, 1, 0), 1);
        check.due("not all are so", x.kinds(0), 0);
        x.tell(1, 1, 1);
        check.due("now they are", x.kinds(0), 6);
        check.due("its kind stays", x.ofRule(0, 0), 2);
        check.due("kinds: UNKNOWN", x.kinds(2), -1);
        check.due("kinds: UNKNOWN", x.kinds(-1), -1);
    }

    private static void forms() {
        RoundRules x = Check.of("d3;p3c10;p1j201;p1j222,001");
        check.due("without OTHER", x.forms(0), 3);
        check.due("with OTHER", x.forms(1), 12);
        check.due("but it would go round", x.forms(2), 4);
        x.reading(1, 1, 0, 3);
        check.due("turned about", x.forms(0), 2);
        check.due("the others can't make it so", x.forms(1), 0);
        x.back(1);
        x.reading(1, 0, 1, 3);
        x.reading(2, 0, 1, -9);
        check.due("as it is", x.forms(0), 1);
        check.due("either way", x.forms(1), 12);
        x.form(0, 1);
        check.due("as it is", x.forms(0), 1);
        check.due("its form stays", x.ofRule(0, 3), 1);
        check.due("forms: UNKNOWN", x.forms(3), -1);
        check.due("forms: UNKNOWN", x.forms(-1), -1);
    }

    private static void oddsAre(RoundRules x, long upper, long lower) {
        check.due("odds, upper", x.odds(0, 0), upper);
        check.due("odds, lower", x.odds(0, 1), lower);
    }

    private static void odds() {
        long[][] due = {{0, 1}, {1, 16}, {1, 8}, {3, 16}, {1, 4}, {5, 16}, {3, 8}, {7, 16}, {1, 2},
            {9, 16}, {5, 8}, {11, 16}, {3, 4}, {13, 16}, {7, 8}, {15, 16}, {1, 1}};
        RoundRules x = Check.of("d1");
        oddsAre(x, 0, 1);
        for (int k = 0; k < 16; k++) {
            x.tell(0, k / 4, k % 4);
            oddsAre(x, due[k + 1][0], due[k + 1][1]);
        }
        check.due("odds of what follows", Check.of(Check.PATHS).odds(1, 0), 3);
        check.due("odds: OUTSIDE", x.odds(0, 2), Long.MIN_VALUE);
        check.due("odds: OUTSIDE", x.odds(0, -1), Long.MIN_VALUE);
        check.due("odds: UNKNOWN", x.odds(1, 0), Long.MIN_VALUE);
        check.due("odds: UNKNOWN", x.odds(-1, 0), Long.MIN_VALUE);
        x.put(0, 0, 1);
        x.odds(0, 2);
        check.due("odds name no fault", x.fault(), 1);
    }
}
