/** Promises 19 to 29 and their Terms, sentence by sentence: SHEETS, TELLING, QUOTED, TRACE, fault, many. */
final class SheetsEdges {
    private static final long LOST = Long.MIN_VALUE;
    private static final int[] FAR = {-1, 4, Integer.MIN_VALUE, Integer.MAX_VALUE};

    private final Check check;

    SheetsEdges(Check check) {
        this.check = check;
    }

    void run() {
        rows();
        cut();
        sheet();
        sheetRefuses();
        lose();
        put();
        cell();
        copy();
        copyOverlaps();
        copyRefuses();
        speak();
        quote();
        as();
        trace();
        fault();
        many();
        lifetime();
    }

    private void rows() {
        check.says(0, "SHEETS 0 .. 3 have nothing (at first), or a row of 0 .. 60 numbers (0 at first) of a LANE: 0 bytes, "
                + "1 shorts, 2 ints;");
        for (int lane = 0; lane < 3; lane++) {
            for (int n = 0; n <= 60; n++) {
                RoundRules x = new RoundRules();
                check.due("a row of " + n, x.sheet(n % 4, lane, n), 1);
                for (int i = 0; i < n; i++) {
                    check.due("0 at first", x.cell(n % 4, i, lane), 0);
                }
                check.due("no cell behind", x.cell(n % 4, n, lane), LOST);
                check.due("its fault", x.fault(), 3);
                check.due("none ahead", x.cell(n % 4, -1, lane), LOST);
                check.due("its fault", x.fault(), 3);
            }
        }
    }

    private void cut() {
        check.says(0, "what comes to a cell of it is cut to its LANE.");
        int[] numbers = {0, 1, -1, 127, 128, 129, 255, 256, -128, -129, 32767, 32768, 65535, 65536, -32768, -32769,
            Integer.MAX_VALUE, Integer.MIN_VALUE};
        long[] bytes = {0, 1, -1, 127, -128, -127, -1, 0, -128, 127, -1, 0, -1, 0, 0, -1, -1, 0};
        long[] shorts = {0, 1, -1, 127, 128, 129, 255, 256, -128, -129, 32767, -32768, -1, 0, -32768, 32767, -1, 0};
        RoundRules x = new RoundRules();
        for (int lane = 0; lane < 3; lane++) {
            x.sheet(lane, lane, 1);
        }
        for (int k = 0; k < numbers.length; k++) {
            for (int lane = 0; lane < 3; lane++) {
                check.due("put " + numbers[k], x.put(lane, 0, numbers[k]), 1);
            }
            check.due(numbers[k] + " as a byte", x.cell(0, 0, 0), bytes[k]);
            check.due(numbers[k] + " as a short", x.cell(1, 0, 1), shorts[k]);
            check.due(numbers[k] + " as an int", x.cell(2, 0, 2), numbers[k]);
        }
    }

    private void sheet() {
        check.says(19, "A SHEET gets a new row: 1.");
        RoundRules x = new RoundRules();
        x.sheet(0, 2, 60);
        x.sheet(1, 2, 60);
        for (int i = 0; i < 60; i++) {
            x.put(0, i, 7);
            x.put(1, i, 8);
        }
        check.due("a shorter row", x.sheet(0, 2, 30), 1);
        check.due("no cell behind", x.cell(0, 30, 2), LOST);
        check.due("the same length again", x.sheet(0, 2, 60), 1);
        for (int i = 0; i < 60; i++) {
            check.due("all 0 again", x.cell(0, i, 2), 0);
            check.due("the other is as it was", x.cell(1, i, 2), 8);
        }
        check.due("of another lane", x.sheet(0, 0, 2), 1);
        check.due("not of the lane it had", x.cell(0, 0, 2), LOST);
        check.due("CAST", x.fault(), 2);
        check.due("of no cells", x.sheet(0, 1, 0), 1);
        check.due("it has something", x.lose(0), 1);
    }

    private void sheetRefuses() {
        check.says(19, "UNKNOWN; OUTSIDE: lane, n above 60; SIZE.");
        RoundRules x = new RoundRules();
        for (int v : FAR) {
            check.due("UNKNOWN ahead of all", x.sheet(v, 9, -1), -1);
            check.due("fault", x.fault(), 0);
            check.due("OUTSIDE lane ahead of SIZE", x.sheet(0, v == 4 ? 3 : v, -1), -2);
            check.due("fault", x.fault(), 0);
        }
        check.due("sixty", x.sheet(0, 0, 60), 1);
        check.due("sixty-one", x.sheet(0, 0, 61), -2);
        check.due("far above", x.sheet(0, 0, Integer.MAX_VALUE), -2);
        check.due("fault", x.fault(), 0);
        check.due("SIZE", x.sheet(0, 0, -1), -14);
        check.due("fault", x.fault(), 4);
        check.due("SIZE", x.sheet(0, 2, Integer.MIN_VALUE), -14);
        check.due("the row stays", x.cell(0, 59, 0), 0);
    }

    private void lose() {
        check.says(20, "A SHEET has nothing: 1; 0: it had nothing. UNKNOWN.");
        RoundRules x = new RoundRules();
        for (int k = 0; k < 4; k++) {
            check.due("it had nothing", x.lose(k), 0);
            x.sheet(k, k % 3, k);
        }
        for (int k = 0; k < 4; k++) {
            check.due("it had a row", x.lose(k), 1);
            check.due("it has nothing", x.lose(k), 0);
            check.due("NULL", x.put(k, 0, 0), -11);
            for (int other = k + 1; other < 4; other++) {
                check.due("others have theirs", x.copy(other, 0, other, 0, other), other);
            }
        }
        for (int v : FAR) {
            check.due("UNKNOWN", x.lose(v), -1);
        }
        x.sheet(0, 2, 3);
        x.put(0, 1, 5);
        x.lose(0);
        x.sheet(0, 2, 3);
        check.due("a new row is 0", x.cell(0, 1, 2), 0);
        RoundRules told = Check.of("d2,000");
        check.due("the text's sheet", told.lose(3), 1);
        check.due("the program stays", told.many(3), 1);
    }

    private void put() {
        check.says(21, "Cell i of a SHEET becomes v: 1. UNKNOWN; NULL; INDEX.");
        RoundRules x = new RoundRules();
        for (int v : FAR) {
            check.due("UNKNOWN ahead of NULL", x.put(v, -1, 0), -1);
            check.due("fault", x.fault(), 0);
            check.due("NULL ahead of INDEX", x.put(0, v, 0), -11);
            check.due("fault", x.fault(), 1);
        }
        x.sheet(0, 2, 4);
        for (int v : FAR) {
            check.due("INDEX", x.put(0, v, 0), -13);
            check.due("fault", x.fault(), 3);
        }
        for (int i = 0; i < 4; i++) {
            check.due("put", x.put(0, i, 10 + i), 1);
            check.due("fault", x.fault(), 0);
        }
        for (int i = 0; i < 4; i++) {
            check.due("each its own", x.cell(0, i, 2), 10 + i);
        }
        x.sheet(1, 0, 60);
        check.due("the last of sixty", x.put(1, 59, 1), 1);
        check.due("one behind", x.put(1, 60, 1), -13);
        x.sheet(2, 0, 0);
        check.due("of no cells", x.put(2, 0, 1), -13);
    }

    private void cellIs(RoundRules x, int k, int i, int lane, int fault) {
        check.due("LOST", x.cell(k, i, lane), LOST);
        check.due("its fault", x.fault(), fault);
    }

    private void cell() {
        check.says(22, "Cell i of what a SHEET has, taken as a row of a LANE. LOST: UNKNOWN, OUTSIDE: lane; FAULTS CAST "
                + "(nothing is no CAST), NULL, INDEX.");
        RoundRules x = new RoundRules();
        for (int v : FAR) {
            cellIs(x, v, -1, 9, 0);
            cellIs(x, 0, -1, v == 4 ? 3 : v, 0);
        }
        for (int lane = 0; lane < 3; lane++) {
            cellIs(x, 0, 0, lane, 1);
            cellIs(x, 0, -1, lane, 1);
        }
        for (int row = 0; row < 3; row++) {
            Check.fill(x, 0, row, 5, 6);
            for (int lane = 0; lane < 3; lane++) {
                if (lane != row) {
                    cellIs(x, 0, 0, lane, 2);
                    cellIs(x, 0, 9, lane, 2);
                }
            }
            cellIs(x, 0, 2, row, 3);
            cellIs(x, 0, -1, row, 3);
            cellIs(x, 0, Integer.MIN_VALUE, row, 3);
            cellIs(x, 0, Integer.MAX_VALUE, row, 3);
            check.due("the last", x.cell(0, 1, row), 6);
            check.due("its fault", x.fault(), 0);
        }
        Check.fill(x, 0, 2, Integer.MIN_VALUE);
        check.due("the least int is not LOST", x.cell(0, 0, 2), Integer.MIN_VALUE);
    }

    private void cells(RoundRules x, int k, int lane, int... due) {
        for (int i = 0; i < due.length; i++) {
            check.due("cell " + i, x.cell(k, i, lane), due[i]);
        }
    }

    private void copy() {
        check.says(23, "n cells of a SHEET from i on go to another one (perhaps the same) from j on, as they were: n.");
        for (int lane = 0; lane < 3; lane++) {
            RoundRules x = new RoundRules();
            Check.fill(x, 0, lane, 1, 2, 3, -4);
            Check.fill(x, 3, lane, 9, 9, 9, 9, 9);
            check.due("none", x.copy(0, 0, 3, 0, 0), 0);
            check.due("none of the end to the end", x.copy(0, 4, 3, 5, 0), 0);
            cells(x, 3, lane, 9, 9, 9, 9, 9);
            check.due("all, to its end", x.copy(0, 0, 3, 1, 4), 4);
            cells(x, 3, lane, 9, 1, 2, 3, -4);
            check.due("the last alone to the first", x.copy(0, 3, 3, 0, 1), 1);
            cells(x, 3, lane, -4, 1, 2, 3, -4);
            check.due("back", x.copy(3, 0, 0, 2, 2), 2);
            cells(x, 0, lane, 1, 2, -4, 1);
            check.due("its fault", x.fault(), 0);
        }
        RoundRules sixty = new RoundRules();
        sixty.sheet(0, 1, 60);
        sixty.sheet(1, 1, 60);
        sixty.put(0, 59, 77);
        check.due("all sixty", sixty.copy(0, 0, 1, 0, 60), 60);
        check.due("the last", sixty.cell(1, 59, 1), 77);
    }

    private void copyOverlaps() {
        RoundRules x = new RoundRules();
        Check.fill(x, 0, 2, 1, 2, 3, 4, 5);
        check.due("up by one", x.copy(0, 0, 0, 1, 4), 4);
        cells(x, 0, 2, 1, 1, 2, 3, 4);
        check.due("down by two", x.copy(0, 2, 0, 0, 3), 3);
        cells(x, 0, 2, 2, 3, 4, 3, 4);
        check.due("onto itself", x.copy(0, 0, 0, 0, 5), 5);
        cells(x, 0, 2, 2, 3, 4, 3, 4);
        check.due("up by three", x.copy(0, 0, 0, 3, 2), 2);
        cells(x, 0, 2, 2, 3, 4, 2, 3);
    }

    private void copyFails(RoundRules x, int[] call, int fault) {
        check.due("copy fails", x.copy(call[0], call[1], call[2], call[3], call[4]), -10 - fault);
        check.due("its fault", x.fault(), fault);
    }

    private void copyRefuses() {
        check.says(23, "UNKNOWN; FAULTS NULL (the first, the other), CAST (unlike LANES), INDEX: i, j, n below 0 or beyond.");
        RoundRules x = new RoundRules();
        for (int v : FAR) {
            check.due("UNKNOWN, the first, ahead of NULL", x.copy(v, 0, 0, 0, 0), -1);
            check.due("UNKNOWN, the other, ahead of NULL", x.copy(0, 0, v, 0, 0), -1);
            check.due("fault", x.fault(), 0);
        }
        x.sheet(1, 0, 3);
        x.sheet(2, 1, 3);
        copyFails(x, new int[] {0, 0, 0, 0, 0}, 1);
        copyFails(x, new int[] {0, 9, 1, 9, -1}, 1);
        copyFails(x, new int[] {1, 9, 0, 9, -1}, 1);
        copyFails(x, new int[] {1, 9, 2, 9, -1}, 2);
        copyFails(x, new int[] {2, 0, 1, 0, 0}, 2);
        x.sheet(2, 0, 2);
        int[][] beyond = {{-1, 0, 0}, {0, -1, 0}, {0, 0, -1}, {4, 0, 0}, {0, 3, 0}, {0, 0, 3}, {0, 1, 2}, {2, 0, 2}, {3, 2, 1},
            {3, 0, 1}, {0, 2, 1}, {-1, -1, 2}, {Integer.MAX_VALUE, 0, 0}, {0, Integer.MAX_VALUE, 0}, {0, 0, Integer.MAX_VALUE},
            {1, 1, Integer.MAX_VALUE}, {Integer.MIN_VALUE, 0, 0}, {0, Integer.MIN_VALUE, 0}, {0, 0, Integer.MIN_VALUE}};
        for (int[] at : beyond) {
            copyFails(x, new int[] {1, at[0], 2, at[1], at[2]}, 3);
        }
        check.due("just within", x.copy(1, 1, 2, 0, 2), 2);
        check.due("just within", x.copy(1, 3, 2, 2, 0), 0);
    }

    private static int after(int trace, int... numbers) {
        int wrapped = trace;
        for (int number : numbers) {
            wrapped = wrapped * 31 + number;
        }
        return wrapped;
    }

    private void speak() {
        check.says(0, "PLAIN (1): PRICE. BULKY (2): what PLAIN's gives, and 100. DOUBLE (3): what BULKY's gives, and what "
                + "PLAIN's gives (BULKY's left out).");
        check.says(24, "TELLING of a RULE. UNKNOWN.");
        for (int price = 1; price <= 9; price++) {
            RoundRules x = Check.of("d1;p" + price + "c00;b" + price + "c00;w" + price + "c00");
            check.due("PLAIN", x.speak(0), price);
            check.due("trace", x.trace(), 1);
            check.due("BULKY", x.speak(1), price + 100);
            check.due("trace", x.trace(), 31 * (31 + 2) + 1);
            check.due("DOUBLE", x.speak(2), price + 100 + price);
            check.due("trace", x.trace(), after(1, 2, 1, 3, 2, 1, 1));
        }
        RoundRules five = Check.of("d1;p1c00;p1c00;p1c00;p1c00;w9c00");
        check.due("the last rule", five.speak(4), 118);
        int[] far = {-1, 5, Integer.MIN_VALUE, Integer.MAX_VALUE};
        int trace = five.trace();
        for (int r : far) {
            check.due("UNKNOWN", five.speak(r), -1);
            check.due("it leaves nothing", five.trace(), trace);
        }
        check.due("UNKNOWN without a program", new RoundRules().speak(0), -1);
    }

    private void quote() {
        check.says(0, "QUOTED by a lent body (4): its HEAD; DOUBLE ones have their own (5): 40.");
        check.says(25, "How it is QUOTED. UNKNOWN.");
        for (int head = 0; head < 4; head++) {
            RoundRules x = Check.of("d4;p1c" + head + "0;b1c" + head + "0;w1c" + head + "0");
            check.due("PLAIN", x.quote(0), head);
            check.due("trace", x.trace(), 4);
            check.due("BULKY", x.quote(1), head);
            check.due("trace", x.trace(), after(4, 4));
            check.due("DOUBLE", x.quote(2), 40);
            check.due("trace", x.trace(), after(4, 4, 5));
            int[] far = {-1, 3, Integer.MIN_VALUE, Integer.MAX_VALUE};
            for (int r : far) {
                check.due("UNKNOWN", x.quote(r), -1);
                check.due("it leaves nothing", x.trace(), after(4, 4, 5));
            }
        }
        check.due("UNKNOWN without a program", new RoundRules().quote(0), -1);
    }

    private void as() {
        check.says(26, "A RULE, taken as one of a kind: 1. UNKNOWN; OUTSIDE; CAST: it is none (each is a PLAIN one, too; a DOUBLE "
                + "one is a BULKY one).");
        RoundRules x = Check.of("d1;p1c00;b1c00;w1c00");
        int[][] due = {{1, -12, -12}, {1, 1, -12}, {1, 1, 1}};
        for (int r = 0; r < 3; r++) {
            for (int kind = 0; kind < 3; kind++) {
                check.due("as(" + r + ", " + kind + ")", x.as(r, kind), due[r][kind]);
                check.due("its fault", x.fault(), due[r][kind] == 1 ? 0 : 2);
            }
            check.due("it is what it was", x.ofRule(r, 0), r);
        }
        int[] far = {-1, 3, Integer.MIN_VALUE, Integer.MAX_VALUE};
        for (int v : far) {
            x.as(0, 2);
            check.due("UNKNOWN ahead of OUTSIDE", x.as(v, v), -1);
            check.due("its fault", x.fault(), 0);
            x.as(0, 2);
            check.due("OUTSIDE", x.as(2, v), -2);
            check.due("its fault", x.fault(), 0);
        }
        check.due("UNKNOWN without a program", new RoundRules().as(0, 0), -1);
        check.due("it leaves no trace", x.trace(), 0);
    }

    private void trace() {
        check.says(0, "TELLING of RULES by bodies that leave their number in TRACE (an int that wraps, 0 at first, becomes 31 "
                + "times it and the number) as they begin:");
        check.says(27, "TRACE.");
        RoundRules x = Check.of("d1;p1c00;w1c00");
        check.due("0 at first", x.trace(), 0);
        int due = 0;
        boolean wasBelow = false;
        for (int k = 0; k < 60; k++) {
            x.quote(k % 2);
            due = after(due, 4 + k % 2);
            check.due("trace " + k, x.trace(), due);
            wasBelow |= due < 0;
        }
        check.due("it wrapped", wasBelow);
        long exact = 4;
        RoundRules plain = Check.of("d1;p1c00");
        plain.quote(0);
        for (int k = 1; k < 7; k++) {
            plain.quote(0);
            exact = exact * 31 + 4;
            check.due("cut to an int", plain.trace(), (int) exact);
        }
        check.due("beyond an int by then", exact > Integer.MAX_VALUE);
        check.due("asked twice", plain.trace(), (int) exact);
        // calls that neither speak nor quote leave it
        plain.as(0, 0);
        plain.ofRule(0, 2);
        plain.kinds(0);
        plain.forms(0);
        check.due("left", plain.trace(), (int) exact);
    }

    private void fault() {
        check.says(28, "The FAULT of the latest call that names one: 0: it came to none, or was refused (0 ahead of any).");
        check.due("ahead of any", new RoundRules().fault(), 0);
        for (int which = 0; which < 7; which++) {
            RoundRules x = Check.of("d1;p1c00");
            x.sheet(0, 2, -1);
            check.due("SIZE", x.fault(), 4);
            check.due("asked twice", x.fault(), 4);
            refuse(x, which);
            check.due("refused, call " + which, x.fault(), 0);
            x.sheet(0, 2, -1);
            succeed(x, which);
            check.due("come to none, call " + which, x.fault(), 0);
        }
        RoundRules y = Check.of("d1;p1c00");
        y.sheet(0, 2, -1);
        callsThatNameNone(y);
        check.due("calls that name none leave it", y.fault(), 4);
        y.day(0, 0, 0, 0, 0);
        check.due("the latest", y.fault(), 1);
        y.as(0, 1);
        check.due("the latest", y.fault(), 2);
        y.program(3, 0, 0, 60);
        check.due("the latest", y.fault(), 3);
    }

    private static void refuse(RoundRules x, int which) {
        switch (which) {
            case 0: x.program(0, 3, 0, 0); break;
            case 1: x.day(0, 0, 0, 21, 0); break;
            case 2: x.sheet(0, 0, 61); break;
            case 3: x.put(4, 0, 0); break;
            case 4: x.cell(0, 0, 3); break;
            case 5: x.copy(0, 0, 4, 0, 0); break;
            default: x.as(0, 3);
        }
    }

    private static void succeed(RoundRules x, int which) {
        switch (which) {
            case 0: x.program(3, 0, 0, 2); break;
            case 1: x.day(3, 0, 0, 0, 0); break;
            case 2: x.sheet(0, 0, 0); break;
            case 3: x.put(3, 0, 100); break;
            case 4: x.cell(3, 0, 0); break;
            case 5: x.copy(3, 0, 3, 0, 0); break;
            default: x.as(0, 0);
        }
    }

    private static void callsThatNameNone(RoundRules x) {
        x.ofRule(9, 0);
        x.ofRelation(0, 9);
        x.form(0, 0);
        x.tell(0, 0, 0);
        x.ofFact(0, 0, 0, 9);
        x.rounds();
        x.born(-1);
        x.ranked(9, 0);
        x.settled(0);
        x.demands(0, 9);
        x.reading(0, 0, 0, 0);
        x.back(9);
        x.kinds(0);
        x.forms(9);
        x.odds(9, 0);
        x.lose(0);
        x.lose(9);
        x.speak(0);
        x.quote(9);
        x.trace();
        x.many(9);
    }

    private void many() {
        check.says(29, "How many: 0 RELATIONS, 1 RULES, 2 FACTS that HOLD, 3 that are TOLD, 4 READINGS (0 all without a "
                + "PROGRAM). OUTSIDE.");
        RoundRules x = Check.of("d4;w1c10;w1c10;w1c10;w1c10;w1c10,000,001,002,003,100");
        for (int k = 0; k < 8; k++) {
            x.reading(0, 0, 0, 0);
        }
        int[] due = {4, 5, 8, 5, 8};
        RoundRules none = new RoundRules();
        RoundRules least = Check.of("d1");
        for (int what = 0; what < 5; what++) {
            check.due("many(" + what + ")", x.many(what), due[what]);
            check.due("without a program", none.many(what), 0);
            check.due("of the least program", least.many(what), what == 0 ? 1 : 0);
        }
        int[] far = {-1, 5, -9, Integer.MIN_VALUE, Integer.MAX_VALUE};
        for (int what : far) {
            check.due("OUTSIDE", x.many(what), -2);
            check.due("OUTSIDE without a program", none.many(what), -2);
        }
    }

    /** An object is used for at most 512 calls: the last is answered like the first. */
    private void lifetime() {
        RoundRules x = new RoundRules();
        x.sheet(0, 0, 2);
        x.put(0, 0, 'd');
        x.put(0, 1, '1');
        x.program(0, 0, 0, 2);
        for (int call = 5; call <= 512; call++) {
            check.due("call " + call, x.tell(0, 3, 3), call % 2);
        }
    }
}
