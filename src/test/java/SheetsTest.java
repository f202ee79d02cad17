/** Promises 19 to 29: sheets, telling and quoting, kinds, trace, fault, many. */
public final class SheetsTest {
    private static final Check check = new Check("SheetsTest");
    private static final long LOST = Long.MIN_VALUE;

    public static void main(String[] args) {
        sheet();
        lose();
        put();
        cell();
        copy();
        refusedCopies();
        speak();
        quote();
        as();
        traceWraps();
        fault();
        many();
        check.end();
    }

    private static void sheet() {
        RoundRules x = new RoundRules();
        check.due("sheet: UNKNOWN", x.sheet(4, 9, 99), -1);
        check.due("sheet: UNKNOWN", x.sheet(-1, 0, 0), -1);
        check.due("sheet: OUTSIDE lane", x.sheet(0, 3, -1), -2);
        check.due("sheet: OUTSIDE lane", x.sheet(0, -1, 0), -2);
        check.due("sheet: OUTSIDE n", x.sheet(0, 0, 61), -2);
        check.due("fault of a refused call", x.fault(), 0);
        check.due("sheet: SIZE", x.sheet(0, 0, -1), -14);
        check.due("fault", x.fault(), 4);
        check.due("nothing is changed", x.lose(0), 0);
        check.due("sheet of sixty", x.sheet(3, 2, 60), 1);
        check.due("fault", x.fault(), 0);
        check.due("its last cell", x.cell(3, 59, 2), 0);
        x.put(3, 59, 7);
        check.due("sheet of none", x.sheet(3, 1, 0), 1);
        check.due("no cell", x.cell(3, 0, 1), LOST);
        check.due("a new row again", x.sheet(3, 2, 60), 1);
        check.due("0 at first", x.cell(3, 59, 2), 0);
        check.due("SIZE leaves the row", x.sheet(3, 0, Integer.MIN_VALUE), -14);
        check.due("as it was", x.cell(3, 59, 2), 0);
    }

    private static void lose() {
        RoundRules x = new RoundRules();
        check.due("lose: UNKNOWN", x.lose(4), -1);
        check.due("lose: UNKNOWN", x.lose(-1), -1);
        check.due("lose(0) of nothing", x.lose(0), 0);
        x.sheet(0, 2, 0);
        check.due("lose(0) of an empty row", x.lose(0), 1);
        check.due("lose(0) again", x.lose(0), 0);
        check.due("put to nothing", x.put(0, 0, 0), -11);
        x.lose(0);
        check.due("lose names no fault", x.fault(), 1);
    }

    private static void put() {
        RoundRules x = new RoundRules();
        check.due("put: UNKNOWN", x.put(4, 9, 0), -1);
        check.due("put: UNKNOWN", x.put(-1, 0, 0), -1);
        check.due("put: NULL", x.put(0, 9, 0), -11);
        check.due("fault", x.fault(), 1);
        x.sheet(0, 0, 2);
        x.sheet(1, 1, 2);
        x.sheet(2, 2, 2);
        check.due("put: INDEX", x.put(0, 2, 0), -13);
        check.due("put: INDEX", x.put(0, -1, 0), -13);
        check.due("fault", x.fault(), 3);
        int[] values = {0x12345678, 128, 32768, -129, -32769, -1};
        for (int v : values) {
            for (int k = 0; k < 3; k++) {
                check.due("put", x.put(k, 1, v), 1);
            }
            check.due("cut to a byte", x.cell(0, 1, 0), (byte) v);
            check.due("cut to a short", x.cell(1, 1, 1), (short) v);
            check.due("an int", x.cell(2, 1, 2), v);
            check.due("its neighbour", x.cell(2, 0, 2), 0);
        }
        check.due("fault", x.fault(), 0);
    }

    private static void cell() {
        RoundRules x = new RoundRules();
        check.due("cell: UNKNOWN", x.cell(4, 0, 0), LOST);
        check.due("cell: UNKNOWN", x.cell(-1, 0, 0), LOST);
        check.due("cell: OUTSIDE", x.cell(0, 0, 3), LOST);
        check.due("cell: OUTSIDE", x.cell(0, 0, -1), LOST);
        check.due("fault of a refused call", x.fault(), 0);
        check.due("cell: NULL", x.cell(0, 9, 2), LOST);
        check.due("fault", x.fault(), 1);
        Check.fill(x, 0, 1, 5, 6);
        check.due("cell: CAST", x.cell(0, 9, 2), LOST);
        check.due("fault", x.fault(), 2);
        check.due("cell: INDEX", x.cell(0, 2, 1), LOST);
        check.due("fault", x.fault(), 3);
        check.due("cell: INDEX", x.cell(0, -1, 1), LOST);
        check.due("fault", x.fault(), 3);
        check.due("cell(0, 1, 1)", x.cell(0, 1, 1), 6);
        check.due("fault", x.fault(), 0);
    }

    private static void cellsAre(RoundRules x, int k, int lane, int... due) {
        for (int i = 0; i < due.length; i++) {
            check.due("cell " + i, x.cell(k, i, lane), due[i]);
        }
    }

    private static void copy() {
        RoundRules x = new RoundRules();
        Check.fill(x, 0, 2, 1, 2, 3, 4, 5);
        Check.fill(x, 1, 2, 9, 9, 9);
        check.due("copy to another", x.copy(0, 3, 1, 0, 2), 2);
        cellsAre(x, 1, 2, 4, 5, 9);
        check.due("copy upward to the same", x.copy(0, 0, 0, 1, 4), 4);
        cellsAre(x, 0, 2, 1, 1, 2, 3, 4);
        check.due("copy downward to the same", x.copy(0, 1, 0, 0, 4), 4);
        cellsAre(x, 0, 2, 1, 2, 3, 4, 4);
        check.due("copy of none at the ends", x.copy(0, 5, 1, 3, 0), 0);
    }

    private static void refusedCopies() {
        RoundRules x = new RoundRules();
        Check.fill(x, 0, 2, 1, 2, 3);
        check.due("copy: UNKNOWN", x.copy(4, 0, 2, 0, 0), -1);
        check.due("copy: UNKNOWN", x.copy(2, 0, -1, 0, 0), -1);
        check.due("copy: NULL, the first", x.copy(1, 9, 0, 0, 0), -11);
        check.due("copy: NULL, the other", x.copy(0, 9, 1, 0, 0), -11);
        check.due("fault", x.fault(), 1);
        Check.fill(x, 1, 1, 7, 8);
        check.due("copy: CAST", x.copy(0, 9, 1, 9, -1), -12);
        check.due("fault", x.fault(), 2);
        Check.fill(x, 1, 2, 7, 8);
        int[][] beyond = {{-1, 0, 0}, {0, -1, 0}, {0, 0, -1}, {0, 0, 3}, {2, 0, 2}, {0, 1, 2}, {4, 0, 0},
            {0, 3, 0}, {Integer.MAX_VALUE, 0, 1}, {1, 1, Integer.MAX_VALUE}};
        for (int[] at : beyond) {
            check.due("copy: INDEX", x.copy(0, at[0], 1, at[1], at[2]), -13);
            check.due("fault", x.fault(), 3);
        }
        cellsAre(x, 1, 2, 7, 8);
    }

    private static int traceOf(int before, int... numbers) {
        int trace = before;
        for (int number : numbers) {
            trace = 31 * trace + number;
        }
        return trace;
    }

    private static void speak() {
        RoundRules x = Check.of("d2;p2c10;b3c01;w4c11");
        check.due("speak of a PLAIN one", x.speak(0), 2);
        check.due("trace", x.trace(), 1);
        check.due("speak of a BULKY one", x.speak(1), 103);
        check.due("trace", x.trace(), traceOf(1, 2, 1));
        check.due("speak of a DOUBLE one", x.speak(2), 108);
        check.due("trace", x.trace(), traceOf(1, 2, 1, 3, 2, 1, 1));
        check.due("speak: UNKNOWN", x.speak(3), -1);
        check.due("speak: UNKNOWN", x.speak(-1), -1);
        check.due("trace", x.trace(), traceOf(1, 2, 1, 3, 2, 1, 1));
    }

    private static void quote() {
        RoundRules x = Check.of("d2;p2c10;b3c01;w4c11");
        check.due("quote of a PLAIN one", x.quote(0), 1);
        check.due("quote of a BULKY one", x.quote(1), 0);
        check.due("quote of a DOUBLE one", x.quote(2), 40);
        check.due("trace", x.trace(), traceOf(0, 4, 4, 5));
        check.due("quote: UNKNOWN", x.quote(3), -1);
        check.due("quote: UNKNOWN", x.quote(-1), -1);
        check.due("trace", x.trace(), traceOf(0, 4, 4, 5));
    }

    private static void as() {
        RoundRules x = Check.of("d2;p2c10;b3c01;w4c11");
        for (int r = 0; r < 3; r++) {
            for (int kind = 0; kind < 3; kind++) {
                check.due("as(" + r + ", " + kind + ")", x.as(r, kind), kind <= r ? 1 : -12);
                check.due("fault", x.fault(), kind <= r ? 0 : 2);
            }
        }
        check.due("as: CAST", x.as(0, 2), -12);
        check.due("as: OUTSIDE", x.as(0, 3), -2);
        check.due("fault of a refused call", x.fault(), 0);
        check.due("as: OUTSIDE", x.as(2, -1), -2);
        check.due("as: UNKNOWN", x.as(3, 3), -1);
        check.due("as: UNKNOWN", x.as(-1, 0), -1);
    }

    private static void traceWraps() {
        RoundRules x = Check.of("d2;w9c10");
        int trace = 0;
        for (int k = 0; k < 20; k++) {
            x.speak(0);
            trace = traceOf(trace, 3, 2, 1, 1);
            check.due("trace that wraps", x.trace(), trace);
        }
        Check.program(x, "d1");
        check.due("trace goes on past a new text", x.trace(), trace);
    }

    private static void fault() {
        RoundRules x = Check.of("d1");
        x.put(0, 0, 0);
        x.many(9);
        x.tell(9, 0, 0);
        x.rounds();
        check.due("calls that name no fault leave it", x.fault(), 1);
        check.due("fault itself too", x.fault(), 1);
        x.put(9, 0, 0);
        check.due("a refused call that names one does not", x.fault(), 0);
        x.sheet(0, 0, -5);
        x.sheet(0, 0, 61);
        check.due("nor another", x.fault(), 0);
        x.sheet(0, 0, -5);
        x.day(3, 0, 0, 0, 0);
        check.due("nor one that comes to none", x.fault(), 0);
    }

    private static void many() {
        RoundRules x = Check.of(Check.PATHS);
        x.reading(0, 0, 0, 0);
        int[] due = {2, 2, 9, 3, 1};
        for (int what = 0; what < due.length; what++) {
            check.due("many(" + what + ")", x.many(what), due[what]);
        }
        check.due("many: OUTSIDE", x.many(5), -2);
        check.due("many: OUTSIDE", x.many(-1), -2);
    }
}
