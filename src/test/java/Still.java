import java.util.Arrays;

/**
 * Calls that change nothing: an object that got one answers each question as one that did not.
 * The questions come in parts, each asked of an object of its own, for 512 calls are all that is promised.
 */
final class Still {
    interface Maker {
        RoundRules make();
    }

    interface Call {
        long on(RoundRules x);
    }

    private static final int PARTS = 8;

    private final Check check;
    private final Maker maker;

    Still(Check check, Maker maker) {
        this.check = check;
        this.maker = maker;
    }

    /** The answer that is due, what fault() tells behind it, and that all else is as it was. */
    void due(String name, Call call, long answer, int fault) {
        RoundRules asked = maker.make();
        check.due(name, call.on(asked), answer);
        check.due(name + ", its fault", asked.fault(), fault);
        for (int part = 0; part < PARTS; part++) {
            RoundRules x = maker.make();
            call.on(x);
            check.due(name + " changes nothing, part " + part,
                    Arrays.equals(answers(x, part), answers(maker.make(), part)));
        }
    }

    private static long[] answers(RoundRules x, int part) {
        switch (part) {
            case 0: return ofAll(x);
            case 1: return ofFacts(x, 0);
            case 2: return ofFacts(x, 2);
            case 3: return inOrder(x);
            default: return ofSheet(x, part - 4);
        }
    }

    private static long[] ofAll(RoundRules x) {
        long[] a = new long[160];
        int n = 0;
        a[n++] = x.trace();
        a[n++] = x.rounds();
        for (int k = 0; k < 5; k++) {
            a[n++] = x.many(k);
            a[n++] = x.kinds(k);
            a[n++] = x.forms(k);
            for (int what = 0; what < 7; what++) {
                a[n++] = x.ofRule(k, what);
            }
        }
        for (int q = 0; q < 4; q++) {
            for (int k = 0; k < 4; k++) {
                a[n++] = x.ofRelation(q, k);
                a[n++] = x.demands(q, k);
            }
            a[n++] = x.odds(q, 0);
            a[n++] = x.odds(q, 1);
        }
        for (int k = 0; k < 30; k++) {
            a[n++] = x.born(k);
        }
        return a;
    }

    private static long[] ofFacts(RoundRules x, int from) {
        long[] a = new long[192];
        for (int k = 0; k < a.length; k++) {
            int fact = 16 * from + k / 6;
            a[k] = x.ofFact(fact / 16, fact / 4 % 4, fact % 4, k % 6);
        }
        return a;
    }

    private static long[] inOrder(RoundRules x) {
        long[] a = new long[65 + 68];
        for (int k = 0; k < 65; k++) {
            a[k] = x.settled(k);
        }
        for (int k = 0; k < 68; k++) {
            a[65 + k] = x.ranked(k / 17, k % 17);
        }
        return a;
    }

    private static long[] ofSheet(RoundRules x, int k) {
        long[] a = new long[6 + 180];
        for (int lane = 0; lane < 3; lane++) {
            a[2 * lane] = x.cell(k, 0, lane);
            a[2 * lane + 1] = x.fault();
            for (int i = 0; i < 60; i++) {
                a[6 + 60 * lane + i] = x.cell(k, i, lane);
            }
        }
        return a;
    }
}
