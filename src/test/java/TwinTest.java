import java.util.Arrays;
import java.util.Random;

/** All promises, call by call against Twin, on runs of 512 calls that chance (always the same) makes. */
public final class TwinTest {
    private static final Check check = new Check("TwinTest");
    private static final Random chance = new Random(512);
    private static final int RUNS = 600;
    private static final int[] EDGES = {Integer.MIN_VALUE, -1000, -10, -9, -8, -2, -1, 0, 1, 2, 3, 4, 5, 6, 7, 9, 10, 13,
        14, 15, 20, 21, 59, 60, 61, 64, 999, 1000, 1001, Integer.MAX_VALUE};
    /** Of each call its numbers: Sheet, Lane, Index, N, What, Rule, reLation (Q), Thing, Form, Count, Pay, Day, Value. */
    private static final String[] ARGUMENTS = {"SLIN", "RW", "QE", "RF", "QTT", "QTTW", "SLIND", "", "C", "QC", "C", "QT",
        "QTTP", "B", "R", "R", "QO", "SLC", "S", "SIV", "SIL", "SISIN", "R", "R", "RE", "", "", "W"};

    public static void main(String[] args) {
        for (int run = 0; run < RUNS; run++) {
            new TwinTest(run).go();
        }
        check.end();
    }

    private final int run;
    private final RoundRules x = new RoundRules();
    private final Twin twin = new Twin();
    private int calls;

    private TwinTest(int run) {
        this.run = run;
    }

    private void go() {
        if (run % 10 != 0) {
            tellText(Texts.text(chance));
        }
        while (calls < 512) {
            int kind = chance.nextInt(60);
            if (kind == 0 && calls < 420) {
                tellText(chance.nextInt(3) == 0 ? Texts.spoiled(chance) : Texts.text(chance));
            } else if (kind <= 3 && calls < 470) {
                tellDay(Texts.threes(chance));
            } else {
                any();
            }
        }
    }

    private void both(int which, int... numbers) {
        int[] a = Arrays.copyOf(numbers, 5);
        calls++;
        long due = twin.call(which, a[0], a[1], a[2], a[3], a[4]);
        check.due("run " + run + ", call " + calls + ": " + Calls.nameOf(which) + Arrays.toString(numbers),
                Calls.on(x, which, a[0], a[1], a[2], a[3], a[4]), due);
    }

    private void tellRow(int sheet, int lane, int[] row) {
        both(17, sheet, lane, row.length);
        for (int i = 0; i < row.length; i++) {
            both(19, sheet, i, row[i]);
        }
    }

    private void tellText(String text) {
        int lane = chance.nextInt(3);
        tellRow(3, lane, Check.codes(text));
        both(0, 3, lane, 0, text.length());
    }

    private void tellDay(int[] threes) {
        int lane = chance.nextInt(3);
        int[] whats = {0, 1, 2, 3, 4, 10, 11, 12, 13};
        tellRow(0, lane, threes);
        for (int k = 0; k < 4; k++) {
            both(6, 0, lane, 0, threes.length / 3, whats[chance.nextInt(whats.length)]);
        }
    }

    private void any() {
        int which = chance.nextInt(Calls.COUNT);
        String kinds = ARGUMENTS[which];
        int[] numbers = new int[kinds.length()];
        int sheet = 0;
        for (int k = 0; k < numbers.length; k++) {
            numbers[k] = chance.nextInt(12) == 0 ? EDGES[chance.nextInt(EDGES.length)] : number(kinds.charAt(k), sheet);
            sheet = kinds.charAt(k) == 'S' && numbers[k] >= 0 && numbers[k] < 4 ? numbers[k] : sheet;
        }
        // sheets that chance makes and loses would leave neither a text nor a row for a day
        if ((which == 17 || which == 18) && chance.nextInt(4) != 0) {
            numbers[0] = 1 + chance.nextInt(2);
        }
        both(which, numbers);
    }

    private int number(char kind, int sheet) {
        switch (kind) {
            case 'S': return chance.nextInt(4);
            case 'L': return twin.laneOf(sheet) < 0 || chance.nextInt(5) == 0 ? chance.nextInt(3) : twin.laneOf(sheet);
            case 'I': return chance.nextInt(3) == 0 ? chance.nextInt(twin.sizeOf(sheet) + 2) : chance.nextInt(3);
            case 'N': return chance.nextInt(3) == 0 ? twin.sizeOf(sheet) : chance.nextInt(6);
            case 'C': return chance.nextInt(3) == 0 ? chance.nextInt(66) : chance.nextInt(8);
            case 'P': return chance.nextInt(3) == 0 ? -9 : chance.nextInt(30);
            case 'D': return chance.nextInt(2) == 0 ? chance.nextInt(5) : 10 + chance.nextInt(4);
            case 'V': return chance.nextInt(2) == 0 ? "dpbwctjn;,0123".charAt(chance.nextInt(14)) : chance.nextInt(15);
            case 'W': return chance.nextInt(7);
            case 'R': return chance.nextInt(5);
            case 'B': return chance.nextInt(3);
            case 'O': return chance.nextInt(2);
            default: return chance.nextInt(4);
        }
    }
}
