import java.util.ArrayList;
import java.util.List;

/**
 * The whole face a second time, call by call. Faults are not looked for here: rows are the machine's own, rules are
 * objects of classes of kinds, and what the machine throws is the fault. What follows from a program is Model's.
 */
final class Twin {
    private static final long LOST = Long.MIN_VALUE;

    /** A body that is lent to all that have none of their own. */
    interface Quoted {
        int head();

        void leave(int number);

        default int quote() {
            leave(4);
            return head();
        }
    }

    static class Plain implements Quoted {
        final Twin twin;
        final Model.Rule rule;

        Plain(Twin twin, Model.Rule rule) {
            this.twin = twin;
            this.rule = rule;
        }

        @Override
        public int head() {
            return rule.head();
        }

        @Override
        public void leave(int number) {
            twin.trace = 31 * twin.trace + number;
        }

        int speak() {
            return plainSpeech();
        }

        final int plainSpeech() {
            leave(1);
            return rule.price();
        }
    }

    static class Bulky extends Plain {
        Bulky(Twin twin, Model.Rule rule) {
            super(twin, rule);
        }

        @Override
        int speak() {
            leave(2);
            return super.speak() + 100;
        }
    }

    static final class Doubled extends Bulky {
        Doubled(Twin twin, Model.Rule rule) {
            super(twin, rule);
        }

        @Override
        int speak() {
            leave(3);
            return super.speak() + plainSpeech();
        }

        @Override
        public int quote() {
            leave(5);
            return 40;
        }
    }

    private final Object[] rows = new Object[4];
    private final Model model = new Model();
    private boolean isSettled;
    private int trace;
    private int fault;

    /** The lane of what a sheet has; -1: nothing. */
    int laneOf(int k) {
        return rows[k] == null ? -1 : rows[k] instanceof byte[] ? 0 : rows[k] instanceof short[] ? 1 : 2;
    }

    int sizeOf(int k) {
        return rows[k] == null ? 0 : java.lang.reflect.Array.getLength(rows[k]);
    }

    private static boolean in(int value, int least, int most) {
        return value >= least && value <= most;
    }

    private boolean isRelation(int q) {
        return in(q, 0, model.relations - 1);
    }

    private boolean isRule(int r) {
        return in(r, 0, model.rules.size() - 1);
    }

    private static boolean areThings(int x, int y) {
        return in(x, 0, 3) && in(y, 0, 3);
    }

    /** Calls are numbered in the order of the face; those of the sheets answer a fault by what is thrown. */
    long call(int which, int a, int b, int c, int d, int e) {
        switch (which) {
            case 0: case 6: case 17: case 19: case 20: case 21: case 24:
                fault = 0;
                try {
                    return ofFaulty(which, a, b, c, d, e);
                } catch (NullPointerException thrown) {
                    return failed(1, which);
                } catch (ClassCastException | ArrayStoreException thrown) {
                    return failed(2, which);
                } catch (IndexOutOfBoundsException thrown) {
                    return failed(3, which);
                } catch (NegativeArraySizeException thrown) {
                    return failed(4, which);
                }
            default:
                return which < 9 ? ofProgram(which, a, b, c, d) : ofRest(which, a, b, c, d);
        }
    }

    private long failed(int found, int which) {
        fault = found;
        return which == 20 ? LOST : -10 - found;
    }

    private long ofFaulty(int which, int a, int b, int c, int d, int e) {
        switch (which) {
            case 0: return program(a, b, c, d);
            case 6: return day(a, b, c, d, e);
            case 17: return sheet(a, b, c);
            case 19: return put(a, b, c);
            case 20: return cell(a, b, c);
            case 21: return copy(a, b, c, d, e);
            default: return as(a, b);
        }
    }

    // ---- rows

    private static Object rowOf(int lane, int n) {
        return lane == 0 ? new byte[n] : lane == 1 ? new short[n] : new int[n];
    }

    /** Cells of a row, once it has been taken as one of a lane: cast, used, room made for them, copied. */
    private static int[] cells(Object row, int lane, int i, int n) {
        Object taken = lane == 0 ? (byte[]) row : lane == 1 ? (short[]) row : (int[]) row;
        int size = java.lang.reflect.Array.getLength(taken);
        if (n > 60) {
            throw new IndexOutOfBoundsException(size);
        }
        int[] room = new int[n];
        Object same = rowOf(lane, n);
        System.arraycopy(taken, i, same, 0, n);
        for (int k = 0; k < n; k++) {
            room[k] = java.lang.reflect.Array.getInt(same, k);
        }
        return room;
    }

    private long sheet(int k, int lane, int n) {
        if (!in(k, 0, 3)) {
            return -1;
        }
        if (!in(lane, 0, 2) || n > 60) {
            return -2;
        }
        rows[k] = rowOf(lane, n);
        return 1;
    }

    private long put(int k, int i, int v) {
        if (!in(k, 0, 3)) {
            return -1;
        }
        if (rows[k] instanceof byte[] bytes) {
            bytes[i] = (byte) v;
        } else if (rows[k] instanceof short[] shorts) {
            shorts[i] = (short) v;
        } else {
            ((int[]) rows[k])[i] = v;
        }
        return 1;
    }

    private long cell(int k, int i, int lane) {
        if (!in(k, 0, 3) || !in(lane, 0, 2)) {
            return LOST;
        }
        return lane == 0 ? ((byte[]) rows[k])[i] : lane == 1 ? ((short[]) rows[k])[i] : ((int[]) rows[k])[i];
    }

    private long copy(int k, int i, int other, int j, int n) {
        if (!in(k, 0, 3) || !in(other, 0, 3)) {
            return -1;
        }
        System.arraycopy(rows[k], i, rows[other], j, n);
        return n;
    }

    private long program(int k, int lane, int i, int n) {
        if (!in(k, 0, 3)) {
            return -1;
        }
        if (!in(lane, 0, 2)) {
            return -2;
        }
        StringBuilder text = new StringBuilder();
        for (int code : cells(rows[k], lane, i, n)) {
            text.append(in(code, 1, 126) ? (char) code : '?');
        }
        isSettled = false;
        return model.program(text.toString());
    }

    private long day(int k, int lane, int i, int n, int what) {
        if (!in(k, 0, 3)) {
            return -1;
        }
        if (!in(lane, 0, 2) || !in(n, 0, 20) || !in(what, 0, 4) && !in(what, 10, 13)) {
            return -2;
        }
        int[] threes = cells(rows[k], lane, i, 3 * n);
        return model.relations == 0 ? -3 : model.day(threes, what);
    }

    // ---- rules as objects

    private Plain part(int r) {
        Model.Rule rule = model.rules.get(r);
        return rule.kind() == 'p' ? new Plain(this, rule)
                : rule.kind() == 'b' ? new Bulky(this, rule) : new Doubled(this, rule);
    }

    private long as(int r, int kind) {
        if (!isRule(r)) {
            return -1;
        }
        if (!in(kind, 0, 2)) {
            return -2;
        }
        Plain part = part(r);
        Plain taken = kind == 0 ? part : kind == 1 ? (Bulky) part : (Doubled) part;
        return taken == part ? 1 : 0;
    }

    private long ofRule(int r, int what) {
        if (!isRule(r)) {
            return -1;
        }
        if (!in(what, 0, 6)) {
            return -2;
        }
        Model.Rule rule = model.rules.get(r);
        return List.of("pbw".indexOf(rule.kind()), rule.price(), rule.cost(), rule.form(), rule.head(), rule.body(),
                rule.other()).get(what);
    }

    private long ofRelation(int q, int what) {
        if (!isRelation(q)) {
            return -1;
        }
        if (!in(what, 0, 3)) {
            return -2;
        }
        settledModel();
        int heads = 0;
        for (int r = 0; r < model.rules.size(); r++) {
            heads += model.rules.get(r).head() == q ? 1 << r : 0;
        }
        return List.of(model.layers[q], model.held(q), model.toldOf(q), heads).get(what);
    }

    private long ofProgram(int which, int a, int b, int c, int d) {
        switch (which) {
            case 1: return ofRule(a, b);
            case 2: return ofRelation(a, b);
            case 3: return isRule(a) ? changingModel().form(a, b) : -1;
            case 4: return !isRelation(a) ? -1 : areThings(b, c) ? changingModel().tell(new Model.Fact(a, b, c)) : -2;
            case 5: return ofFact(a, b, c, d);
            case 7: return model.relations == 0 ? -3 : settledModel().rounds;
            default: return a < 0 ? -2 : model.relations == 0 ? -3 : settledModel().bornIn(a);
        }
    }

    private Model settledModel() {
        if (!isSettled) {
            model.settle();
            isSettled = true;
        }
        return model;
    }

    private Model changingModel() {
        isSettled = false;
        return model;
    }

    private long ofFact(int q, int x, int y, int what) {
        if (!isRelation(q)) {
            return -1;
        }
        return areThings(x, y) && in(what, 0, 5) ? settledModel().ofFact(new Model.Fact(q, x, y), what) : -2;
    }

    private long reading(int q, int x, int y, int c) {
        if (!isRelation(q)) {
            return -1;
        }
        if (!areThings(x, y) || !in(c, 0, 1000) && c != -9) {
            return -2;
        }
        if (model.readings.size() == 8) {
            return -4;
        }
        model.readings.add(new Model.Reading(new Model.Fact(q, x, y), c));
        return model.readings.size() - 1;
    }

    private long back(int n) {
        if (!in(n, 0, model.readings.size())) {
            return -2;
        }
        model.readings = new ArrayList<>(model.readings.subList(0, model.readings.size() - n));
        return model.readings.size();
    }

    private long lose(int k) {
        if (!in(k, 0, 3)) {
            return -1;
        }
        boolean had = rows[k] != null;
        rows[k] = null;
        return had ? 1 : 0;
    }

    private long many(int what) {
        if (!in(what, 0, 4)) {
            return -2;
        }
        if (model.relations == 0) {
            return 0;
        }
        return List.of(model.relations, model.rules.size(), settledModel().born.size(), model.told.size(),
                model.readings.size()).get(what);
    }

    private long ofRest(int which, int a, int b, int c, int d) {
        switch (which) {
            case 9: return !isRelation(a) ? -1 : b < 0 ? -2 : settledModel().ranked(a, b);
            case 10: return a < 0 ? -2 : model.relations == 0 ? -3 : settledModel().settled(a);
            case 11: return !isRelation(a) ? -1 : in(b, 0, 3) ? settledModel().demands(a, b) : -2;
            case 12: return reading(a, b, c, d);
            case 13: return back(a);
            case 14: return isRule(a) ? model.kinds(a) : -1;
            case 15: return isRule(a) ? model.forms(a) : -1;
            case 16: return isRelation(a) && in(b, 0, 1) ? settledModel().odds(a, b) : LOST;
            case 18: return lose(a);
            case 22: return isRule(a) ? part(a).speak() : -1;
            case 23: return isRule(a) ? part(a).quote() : -1;
            case 25: return trace;
            case 26: return fault;
            default: return many(a);
        }
    }
}
