/** Promises 6 to 8: tell, ofFact, day. */
public final class FactsTest {
    private static final Check check = new Check("FactsTest");

    public static void main(String[] args) {
        tell();
        ofFact();
        lastAndMiddle();
        whatDaysTell();
        wrongDays();
        refusedDays();
        check.end();
    }

    private static void tell() {
        RoundRules x = Check.of(Check.PATHS);
        check.due("tell(1, 3, 0)", x.tell(1, 3, 0), 1);
        check.due("told", x.ofFact(1, 3, 0, 1), 1);
        check.due("a fact of PATHS follows too: 3, 1", x.ofFact(1, 3, 1, 3), 1);
        check.due("told no more", x.tell(1, 3, 0), 0);
        check.due("holds no more", x.ofFact(1, 3, 0, 0), 0);
        check.due("nor what followed", x.ofFact(1, 3, 1, 0), 0);
        check.due("a fact that follows is told", x.tell(1, 0, 3), 1);
        check.due("then it costs nothing", x.ofFact(1, 0, 3, 3), 0);
        check.due("a fact of the text is taken back", x.tell(0, 0, 1), 0);
        check.due("so all holds without it", x.many(2), 6);
        check.due("tell: UNKNOWN", x.tell(2, 9, 9), -1);
        check.due("tell: UNKNOWN", x.tell(-1, 0, 0), -1);
        check.due("tell: OUTSIDE x", x.tell(0, 4, 0), -2);
        check.due("tell: OUTSIDE x", x.tell(0, -1, 0), -2);
        check.due("tell: OUTSIDE y", x.tell(0, 0, 4), -2);
        check.due("tell: OUTSIDE y", x.tell(0, 0, -1), -2);
        check.due("told in all", x.many(3), 3);
    }

    private static void fact(RoundRules x, int q, int two, int... due) {
        for (int what = 0; what < 6; what++) {
            String call = "ofFact(" + q + ", " + two / 4 + ", " + two % 4 + ", " + what + ")";
            check.due(call, x.ofFact(q, two / 4, two % 4, what), due[what]);
        }
    }

    private static void ofFact() {
        RoundRules x = Check.of(Check.PATHS);
        fact(x, 0, 1, 1, 1, 0, 0, -9, -9);
        fact(x, 0, 2, 0, 0, -9, -9, -9, -9);
        fact(x, 1, 1, 1, 0, 1, 1, 0, -9);
        fact(x, 1, 2, 1, 0, 2, 2, 1, 1);
        fact(x, 1, 3, 1, 0, 3, 3, 1, 2);
        check.due("ofFact: UNKNOWN", x.ofFact(2, 9, 9, 9), -1);
        check.due("ofFact: UNKNOWN", x.ofFact(-1, 0, 0, 0), -1);
        check.due("ofFact: OUTSIDE x", x.ofFact(1, 4, 0, 0), -2);
        check.due("ofFact: OUTSIDE x", x.ofFact(1, -1, 0, 0), -2);
        check.due("ofFact: OUTSIDE y", x.ofFact(1, 0, 4, 0), -2);
        check.due("ofFact: OUTSIDE y", x.ofFact(1, 0, -1, 0), -2);
        check.due("ofFact: OUTSIDE what", x.ofFact(1, 0, 0, 6), -2);
        check.due("ofFact: OUTSIDE what", x.ofFact(1, 0, 0, -1), -2);
    }

    private static void lastAndMiddle() {
        // 1 (0, 3) follows by way of 1 and of 2 alike, and by rules 1 and 2 alike
        RoundRules x = Check.of("d2;p5c10;p2j100;p2j100,001,002,013,023");
        fact(x, 1, 3, 1, 0, 1, 2, 1, 1);
        // the cheap way is not the one by which it is born first
        RoundRules y = Check.of("d3;p9c10;p1c20;p1c12,001");
        fact(y, 1, 1, 1, 0, 1, 2, 2, -9);
        // of form n by rule 0 (not where 1 holds), of form t by rule 1
        RoundRules z = Check.of("d3;b1n201;w1t20,001,010,101");
        fact(z, 2, 1, 1, 0, 1, 2, 1, -9);
        fact(z, 2, 4, 1, 0, 1, 2, 0, -9);
    }

    private static void whatDaysTell() {
        RoundRules x = Check.of(Check.PATHS);
        int[] whats = {0, 1, 2, 3, 4, 10, 11, 12, 13};
        int[] none = {9, -9, 3, 3, 3, 3, 6, -9, -9};
        int[] back = {5, -9, 2, 2, 2, 2, 3, -9, -9};
        int[] turned = {6, -9, 1, 1, 3, 3, 3, -9, -9};
        int[] empty = {0, -9, 0, 0, 0, 0, 0, -9, -9};
        for (int k = 0; k < whats.length; k++) {
            check.due("a day of nothing", Check.day(x, whats[k]), none[k]);
            check.due("a day that takes 0 (0, 1) back", Check.day(x, whats[k], 0, 0, 1), back[k]);
            check.due("a day that tells it again", Check.day(x, whats[k], 0, 0, 1, 0, 0, 1), none[k]);
            check.due("a day with other forms", Check.day(x, whats[k], 10, 1, 77, 11, 3, -5, 10, 0, 0), turned[k]);
            check.due("a day that takes all back",
                    Check.day(x, whats[k], 0, 0, 1, 0, 1, 2, 0, 2, 3), empty[k]);
        }
        check.due("nothing is changed", x.many(2), 9);
        check.due("no form is changed", x.ofRule(1, 3), 2);
        int[] many = new int[60];
        for (int k = 0; k < 20; k++) {
            many[3 * k] = 1;
            many[3 * k + 1] = k % 4;
            many[3 * k + 2] = k / 4 % 4;
        }
        check.due("a day of twenty", Check.day(x, 4, many), 15);
        Check.fill(x, 0, 0, 9, 9, 0, 3, 0, 9);
        check.due("a day from the middle of bytes", x.day(0, 0, 2, 1, 4), 4);
    }

    private static void wrong(RoundRules x, int first, int... threes) {
        check.due("its first wrong", Check.day(x, 1, threes), first);
        check.due("-100 less it", Check.day(x, 0, threes), -100 - first);
        check.due("-100 less it, of no relation too", Check.day(x, 13, threes), -100 - first);
        check.due("no fault of the machine", x.fault(), 0);
    }

    private static void wrongDays() {
        RoundRules x = Check.of("d3;p1c10;p1j201;p1j222,012");
        wrong(x, 0, 3, 0, 0);
        wrong(x, 1, 2, 0, 0, 2, 4, 0);
        wrong(x, 1, 2, 0, 0, 2, -1, 0);
        wrong(x, 0, 2, 0, 4);
        wrong(x, 0, 2, 0, -1);
        wrong(x, 0, 13, 0, 0);
        wrong(x, 0, 14, 0, 0);
        wrong(x, 0, 10, 2, 0);
        wrong(x, 0, 10, -1, 0);
        wrong(x, 0, 11, 1, 0);
        wrong(x, 0, 11, 4, 0);
        wrong(x, 0, 12, 3, 0);
        wrong(x, 2, 10, 1, 0, 11, 3, 0, 12, 3, 0, 3, 0, 0);
        check.due("nothing is changed", x.ofRule(1, 3), 2);
        // 1 and 2 go round, so neither rule can be of form n
        RoundRules y = Check.of("d3;p1j201;p1j102");
        wrong(y, 0, 10, 3, 0, 11, 3, 0);
        wrong(y, 1, 10, 2, 0, 11, 3, 0);
        check.due("but of the one they have", Check.day(y, 1, 10, 2, 0, 11, 2, 0), -9);
    }

    private static void refusedDays() {
        RoundRules x = new RoundRules();
        check.due("day: UNKNOWN", x.day(4, 9, 0, 99, 99), -1);
        check.due("day: UNKNOWN", x.day(-1, 0, 0, 0, 0), -1);
        check.due("day: OUTSIDE lane", x.day(0, 3, 0, 0, 0), -2);
        check.due("day: OUTSIDE lane", x.day(0, -1, 0, 0, 0), -2);
        check.due("day: OUTSIDE n", x.day(0, 0, 0, 21, 0), -2);
        check.due("day: OUTSIDE n", x.day(0, 0, 0, -1, 0), -2);
        int[] outside = {-1, 5, 9, 14};
        for (int what : outside) {
            check.due("day: OUTSIDE what", x.day(0, 0, 0, 0, what), -2);
        }
        check.due("day: NULL", x.day(0, 0, 9, 1, 0), -11);
        check.due("fault", x.fault(), 1);
        Check.fill(x, 0, 1, 7, 0, 0);
        check.due("day: CAST", x.day(0, 2, 9, 1, 0), -12);
        check.due("fault", x.fault(), 2);
        check.due("day: INDEX", x.day(0, 1, 1, 1, 0), -13);
        check.due("day: INDEX", x.day(0, 1, -1, 0, 0), -13);
        check.due("day: INDEX", x.day(0, 1, 4, 0, 0), -13);
        check.due("day: INDEX", x.day(0, 1, Integer.MAX_VALUE, 20, 0), -13);
        check.due("fault", x.fault(), 3);
        check.due("day: STATE", x.day(0, 1, 0, 1, 0), -3);
        check.due("fault", x.fault(), 0);
        Check.program(x, "d1");
        int[] firsts = {4, 9, 15, -1, 7};
        for (int first : firsts) {
            check.due("day: OUTSIDE, no such act", Check.day(x, 1, 0, 9, 9, first, 0, 0), -2);
        }
        check.due("day: none at the end", x.day(0, 2, 6, 0, 0), 0);
    }
}
