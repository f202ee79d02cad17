/** Promises 9 to 13: rounds, born, ranked, settled, demands. */
public final class RoundsTest {
    private static final Check check = new Check("RoundsTest");

    public static void main(String[] args) {
        rounds();
        born();
        ranked();
        settled();
        demands();
        check.end();
    }

    private static void rounds() {
        check.due("rounds: STATE", new RoundRules().rounds(), -3);
        check.due("no rules", Check.of("d1,000").rounds(), 0);
        check.due("nothing told", Check.of("d2;p1c10").rounds(), 0);
        check.due("nothing new", Check.of("d1;p1c00,001").rounds(), 0);
        check.due("paths", Check.of(Check.PATHS).rounds(), 3);
        check.due("the example", Check.of(Check.EXAMPLE).rounds(), 4);
        // 2 comes in a round of its own, for it is of a layer above
        check.due("layers", Check.of("d3;p1c10;p1n201,001,012,112").rounds(), 1);
        check.due("layers", Check.of("d4;p1c10;p1n203;p1t32,001").ofRelation(2, 0), -1);
        check.due("layers", Check.of("d4;p1c10;p1n203;p1c20,001").rounds(), 2);
        // in a round only what held ahead of it counts, whatever the order of rules
        check.due("one behind another", Check.of("d4;p1c10;p1c21;p1c32,001").rounds(), 3);
        check.due("one behind another", Check.of("d4;p1c32;p1c21;p1c10,001").rounds(), 3);
    }

    private static void bornAre(RoundRules x, int... due) {
        for (int k = 0; k < due.length; k++) {
            check.due("born(" + k + ")", x.born(k), due[k]);
        }
        check.due("born behind the last", x.born(due.length), 0);
        check.due("born far behind", x.born(Integer.MAX_VALUE), 0);
    }

    private static void born() {
        RoundRules none = new RoundRules();
        check.due("born: OUTSIDE ahead of STATE", none.born(-1), -2);
        check.due("born: STATE", none.born(0), -3);
        bornAre(Check.of(Check.PATHS), 3, 3, 2, 1);
        bornAre(Check.of("d4;p1c10;p1n203;p1c20,001"), 1, 1, 1);
        bornAre(Check.of("d1"), 0);
        check.due("NONE is no round", Check.of("d1").born(-9), -2);
        RoundRules layered = Check.of("d3;p1n201;p1c10,001");
        check.due("1 holds where 0 does, so 2 nowhere", layered.ofRelation(2, 1), 0);
        RoundRules both = Check.of("d3;p1n201,001,012,101");
        check.due("born in the first round of its layer", both.ofFact(2, 1, 2, 2), 1);
    }

    private static void ranked() {
        RoundRules x = Check.of("d2;p5c10;p1j100;p1t10,001,012,023");
        // turned about 1: 10, 21, 32; joined 1: 02, 13; as they are 5: 01, 12, 23
        int[] due = {2, 4, 7, 9, 14, 1, 6, 11};
        for (int k = 0; k < due.length; k++) {
            check.due("ranked(1, " + k + ")", x.ranked(1, k), due[k]);
        }
        check.due("ranked: NONE", x.ranked(1, due.length), -9);
        check.due("ranked: NONE", x.ranked(1, Integer.MAX_VALUE), -9);
        check.due("ranked(0, 2)", x.ranked(0, 2), 11);
        check.due("ranked: OUTSIDE", x.ranked(1, -1), -2);
        check.due("ranked: UNKNOWN", x.ranked(2, -1), -1);
        check.due("ranked: UNKNOWN", x.ranked(-1, 0), -1);
    }

    private static void settled() {
        RoundRules none = new RoundRules();
        check.due("settled: OUTSIDE ahead of STATE", none.settled(-1), -2);
        check.due("settled: STATE", none.settled(0), -3);
        // layers: 0 is of 1 (but not where 3 holds), 1 and 3 of 0, 2 of 1
        RoundRules x = Check.of("d4;p1n013;p3c11;p2t20;p4c31,110,111,233");
        int[] due = {20, 21, 48 + 4, 48 + 5, 32 + 15};
        for (int k = 0; k < due.length; k++) {
            check.due("settled(" + k + ")", x.settled(k), due[k]);
        }
        check.due("settled: NONE", x.settled(due.length), -9);
        check.due("settled: NONE", x.settled(Integer.MAX_VALUE), -9);
        RoundRules y = Check.of("d4;p1n013;p2t20,110,111,233,000");
        // layer 0: 1 (1, 0), 1 (1, 1); layer 1: 0 (0, 0), 2 (3, 3), then 1: 0 (1, 0), 0 (1, 1),
        // 2: 2 (0, 0), 3: 2 (0, 1), 2 (1, 1)
        int[] also = {20, 21, 0, 47, 4, 5, 32, 33, 37};
        for (int k = 0; k < also.length; k++) {
            check.due("settled(" + k + ")", y.settled(k), also[k]);
        }
        check.due("settled: NONE", y.settled(also.length), -9);
    }

    private static void demands() {
        RoundRules x = Check.of(Check.PATHS);
        check.due("paths from 0", x.demands(1, 0), 16 + 15);
        check.due("paths from 2", x.demands(1, 2), 64 + 4 + 8);
        check.due("paths from 3", x.demands(1, 3), 128 + 8);
        check.due("no rules", x.demands(0, 2), 4);
        check.due("turned about", Check.of("d2;p1t10,001").demands(1, 2), 64 + 15);
        check.due("but not", Check.of("d3;p1n201").demands(2, 1), 512 + 2 + 32);
        check.due("round and round", Check.of("d2;p1c10;p1t01").demands(0, 1), 240 + 15);
        check.due("demands: UNKNOWN", x.demands(2, 9), -1);
        check.due("demands: UNKNOWN", x.demands(-1, 0), -1);
        check.due("demands: OUTSIDE", x.demands(0, 4), -2);
        check.due("demands: OUTSIDE", x.demands(0, -1), -2);
    }
}
