/** Promises 9 to 13 and their Terms, sentence by sentence: ROUNDS, CHEAP, RANKED, SETTLED, DEMANDS. */
final class RoundsEdges {
    private final Check check;

    RoundsEdges(Check check) {
        this.check = check;
    }

    void run() {
        roundsOfLayers();
        rounds();
        born();
        cheap();
        lastAndMiddle();
        dearFacts();
        rankedOrder();
        ranked();
        settledOrder();
        settled();
        demandsOfForms();
        demands();
    }

    private void roundsAre(String text, int... bornIn) {
        RoundRules x = Check.of(text);
        check.due(text + " rounds", x.rounds(), bornIn.length - 1);
        for (int k = 0; k < bornIn.length; k++) {
            check.due(text + " born in " + k, x.born(k), bornIn[k]);
        }
        check.due(text + " born behind", x.born(bornIn.length), 0);
    }

    private void roundsOfLayers() {
        check.says(0, "ROUNDS: LAYER by LAYER; in each, one behind another: by all RULES whose HEAD is of this LAYER all FACTS "
                + "come to HOLD at once that follow from those that HELD ahead of the ROUND (of lesser LAYERS all, of this one "
                + "as they were then), till nothing new does; a ROUND in which nothing new comes is none.");
        String[] chains = {"d4;p1c10;p1c21;p1c32,033", "d4;p1c32;p1c21;p1c10,033", "d4;p1c21;p1c10;p1c32,033",
            "d4;p1c21;p1c32;p1c10,033"};
        for (String chain : chains) {
            roundsAre(chain, 1, 1, 1, 1);
        }
        // all at once, though of three relations
        roundsAre("d4;p1c10;p1t20;p1c30,033", 1, 3);
        // of 1, 2 a layer each: 1 could come with 3, but is of the layer above
        roundsAre("d4;p1n102;p1c30,000,011", 2, 2, 2);
        // layer 1 has no round of its own: 1 is 0 but where 0 holds
        roundsAre("d4;p1n100;p1n201,000", 1, 1);
        // layers 0 and 1 have none; 3 is of layer 2
        roundsAre("d4;p1n110;p1n301,033", 1, 1);
        roundsAre("d4;p1n110;p1n221;p1n302,033", 1, 1);
        // within a layer both ways round, then the layer above it in its own round
        roundsAre("d3;p1t11;p1c10;p1j111;p1n210,001,012", 2, 2, 3, 4, 7);
        // of a lesser layer all that holds, also what came in its last round
        roundsAre("d4;p1c10;p1j111;p1n213,001,012,023", 3, 3, 2, 1, 6);
    }

    private void rounds() {
        check.says(9, "How many ROUNDS there are. STATE: there is no PROGRAM.");
        check.due("no program", new RoundRules().rounds(), -3);
        RoundRules x = new RoundRules();
        Check.program(x, "d1;p1n000");
        check.due("a text that goes round is none", x.rounds(), -3);
        Check.program(x, "d1;");
        check.due("a text with a fault is none", x.rounds(), -3);
        check.due("the least program", Check.of("d1").rounds(), 0);
        check.due("only told", Check.of("d1,000").rounds(), 0);
        check.due("all that follows is told", Check.of("d2;p1c10,000,100").rounds(), 0);
        RoundRules y = Check.of("d2;p1c10");
        check.due("nothing told", y.rounds(), 0);
        y.tell(0, 0, 0);
        check.due("one is told", y.rounds(), 1);
        y.tell(0, 0, 0);
        check.due("and taken back", y.rounds(), 0);
    }

    private void born() {
        check.says(0, "BORN: in which ROUND, counted through all LAYERS from 1 on; 0: it is TOLD.");
        RoundRules x = Check.of("d4;p1n213;p1c10;p1j111,001,012,023");
        int[][] due = {{0, 1, 0}, {1, 1, 1}, {1, 2, 2}, {1, 3, 3}, {2, 1, 4}, {2, 3, 4}, {3, 0, -9}};
        for (int[] fact : due) {
            check.due("born", x.ofFact(fact[0], 0, fact[1], 2), fact[2]);
        }
        x.tell(1, 0, 3);
        check.due("told, though it follows", x.ofFact(1, 0, 3, 2), 0);
        check.says(10, "How many FACTS are BORN in ROUND k (0: TOLD ones; from 0 on); 0: there are not so many.");
        int[] counts = {4, 3, 2, 6};
        for (int k = 0; k < counts.length; k++) {
            check.due("born in " + k, x.born(k), counts[k]);
        }
        check.due("born behind", x.born(4), 0);
        check.due("born far behind", x.born(Integer.MAX_VALUE), 0);
        check.due("nothing is told", Check.of("d4").born(0), 0);
        check.says(10, "OUTSIDE: k below 0; STATE: there is no PROGRAM.");
        RoundRules none = new RoundRules();
        int[] below = {-1, -9, Integer.MIN_VALUE};
        for (int k : below) {
            check.due("OUTSIDE", x.born(k), -2);
            check.due("OUTSIDE ahead of STATE", none.born(k), -2);
        }
        check.due("STATE", none.born(0), -3);
        check.due("STATE", none.born(Integer.MAX_VALUE), -3);
        RoundRules all = Check.of("d4");
        for (int fact = 0; fact < 64; fact++) {
            all.tell(fact / 16, fact / 4 % 4, fact % 4);
        }
        check.due("all are told", all.born(0), 64);
        check.due("none is born", all.born(1), 0);
    }

    private void cheapIs(String text, int q, int two, int due) {
        check.due(text + " costs", Check.of(text).ofFact(q, two / 4, two % 4, 3), due);
    }

    private void cheap() {
        check.says(0, "CHEAP of a FACT that HOLDS: 0, if it is TOLD; else the least of all by which it follows: COST of the "
                + "RULE, CHEAP of the FACTS of BODY and (form j) OTHER together.");
        cheapIs("d2;p9c10,033,133", 1, 15, 0);
        cheapIs("d2;w9c10,033", 1, 15, 18);
        cheapIs("d2;b9t10,030", 1, 3, 10);
        cheapIs("d3;p9j201,000,100", 2, 0, 9);
        cheapIs("d3;p9n201,000", 2, 0, 9);
        // both parts of form j count, OTHER of form n does not
        cheapIs("d4;p2c10;b2t20;p1j312,003", 3, 0, 6);
        cheapIs("d4;p2c10;p5c21;p1n310,030,112", 3, 6, 1);
        // the same fact twice counts twice
        cheapIs("d3;p4c10;p1j211,000", 2, 0, 9);
        // but not where OTHER holds, for each two of things
        cheapIs("d3;p1n201;w9c20,003,103", 2, 3, 18);
        cheapIs("d3;p1n201;w9c20,003,130", 2, 3, 1);
        // a way that is longer, of more rounds, but costs less
        cheapIs("d4;w9c30;p1c10;p1c21;p1c32,011", 3, 5, 3);
        cheapIs("d4;p3c30;p1c10;p1c21;p1c32,011", 3, 5, 3);
        cheapIs("d4;p2c30;p1c10;p1c21;p1c32,011", 3, 5, 2);
        // what costs less only later makes what was there cost less
        cheapIs("d4;w9c10;p1c20;p1c12;p1c31,000", 3, 0, 3);
        // a told fact ahead of it makes it cheap again
        RoundRules x = Check.of("d2;w9c10;p1j110,001,012,023");
        check.due("1 (0, 3)", x.ofFact(1, 0, 3, 3), 20);
        x.tell(1, 0, 2);
        check.due("1 (0, 3) from one told", x.ofFact(1, 0, 3, 3), 1);
        x.tell(1, 0, 2);
        check.due("1 (0, 3) again", x.ofFact(1, 0, 3, 3), 20);
        check.due("does not hold", x.ofFact(1, 3, 3, 3), -9);
    }

    private void last(String text, int q, int two, int rule, int middle) {
        RoundRules x = Check.of(text);
        check.due(text + " LAST", x.ofFact(q, two / 4, two % 4, 4), rule);
        check.due(text + " MIDDLE", x.ofFact(q, two / 4, two % 4, 5), middle);
    }

    private void lastAndMiddle() {
        check.says(0, "LAST: the RULE by which it is the CHEAP one: of several the least; MIDDLE: of form j the least z.");
        // five rules alike: the least; the last only where it alone is cheap
        last("d2;p2c10;p2c10;p2c10;p2c10;p2c10,000", 1, 0, 0, -9);
        last("d2;p2c10;p2c10;p2c10;p2c10;p1c10,000", 1, 0, 4, -9);
        last("d2;w1c10;b1c10;p2t10,000", 1, 0, 0, -9);
        last("d2;p3c10;b1j100;p2t10,000", 1, 0, 1, 0);
        last("d2;p3c10;p2t10;b1j100,000", 1, 0, 1, -9);
        // by two middle things alike, by the first, by the last alone, by a cheaper one than the least
        last("d2;p1j100,001,002,013,023", 1, 3, 0, 1);
        last("d2;p1j100,000,003", 1, 3, 0, 0);
        last("d2;p1j100,003,033", 1, 3, 0, 3);
        last("d3;p5c10;p1j211,000,003,101,113", 2, 3, 1, 1);
        last("d3;p5c10;p1j210,002,001,013,023,102", 2, 3, 1, 2);
    }

    private void dearFacts() {
        // prices 9 of all DOUBLE rules, found by climbing: the second model finds the same
        String text = "d4;w9j111;w9j122;w9j233;w9n310;w9t11";
        int[] told = {25038, 32, 0, 2432};
        RoundRules x = new RoundRules();
        Model m = new Model();
        Check.program(x, text);
        m.program(text);
        for (int fact = 0; fact < 64; fact++) {
            if ((told[fact / 16] >> fact % 16 & 1) != 0) {
                x.tell(fact / 16, fact / 4 % 4, fact % 4);
                m.tell(new Model.Fact(fact / 16, fact / 4 % 4, fact % 4));
            }
        }
        m.settle();
        check.due("the dearest fact", m.greatest(), 21726);
        check.due("the dearest fact", Check.day(x, 3), 21726);
        for (int fact = 0; fact < 64; fact++) {
            for (int what = 2; what < 6; what++) {
                check.due("dear fact " + fact, x.ofFact(fact / 16, fact / 4 % 4, fact % 4, what),
                        m.ofFact(new Model.Fact(fact / 16, fact / 4 % 4, fact % 4), what));
            }
            check.due("settled " + fact, x.settled(fact), m.settled(fact));
        }
    }

    private void order(RoundRules x, int q, int... due) {
        for (int k = 0; k < due.length; k++) {
            check.due("ranked(" + q + ", " + k + ")", x.ranked(q, k), due[k]);
        }
        check.due("ranked behind the last", x.ranked(q, due.length), -9);
    }

    private void rankedOrder() {
        check.says(0, "RANKED of a RELATION: its FACTS that HOLD, the least CHEAP first, of several the least x, then the "
                + "least y.");
        RoundRules x = Check.of("d2;p2c10;p1t10,033,003,030,012");
        // for 1: 00 turned is none; 33, 30, 03, 21; for 2: 12
        order(x, 1, 3, 9, 12, 15, 6);
        order(x, 0, 3, 6, 12, 15);
        x.tell(1, 3, 2);
        order(x, 1, 14, 3, 9, 12, 15, 6);
        // the least x ahead of the least y
        order(Check.of("d1,030,003,012,021"), 0, 3, 6, 9, 12);
    }

    private void ranked() {
        check.says(11, "The k-th (from 0 on) of RANKED of a RELATION: 4 x and y together; NONE: there are not so many.");
        RoundRules all = Check.of("d4");
        for (int fact = 63; fact >= 0; fact--) {
            all.tell(fact / 16, fact / 4 % 4, fact % 4);
        }
        for (int k = 0; k < 64; k++) {
            check.due("all of a relation", all.ranked(k / 16, k % 16), k % 16);
        }
        check.due("no seventeenth", all.ranked(0, 16), -9);
        check.due("no seventeenth", all.ranked(3, 16), -9);
        check.due("none at all", Check.of("d1").ranked(0, 0), -9);
        check.due("far behind", all.ranked(3, Integer.MAX_VALUE), -9);
        check.says(11, "UNKNOWN; OUTSIDE: k below 0.");
        int[] far = {-1, 4, Integer.MIN_VALUE, Integer.MAX_VALUE};
        for (int v : far) {
            check.due("UNKNOWN ahead of OUTSIDE", all.ranked(v, -1), -1);
        }
        check.due("OUTSIDE", all.ranked(3, -1), -2);
        check.due("OUTSIDE", all.ranked(3, -9), -2);
        check.due("OUTSIDE", all.ranked(0, Integer.MIN_VALUE), -2);
        check.due("UNKNOWN without a program", new RoundRules().ranked(0, -1), -1);
    }

    private void settledAre(RoundRules x, int... due) {
        for (int k = 0; k < due.length; k++) {
            check.due("settled(" + k + ")", x.settled(k), due[k]);
        }
        check.due("settled behind the last", x.settled(due.length), -9);
    }

    private void settledOrder() {
        check.says(0, "SETTLED: all FACTS that HOLD, LAYER by LAYER, in each the least CHEAP first, of several the least "
                + "RELATION, then x, then y.");
        // layer 1 is of relation 0, told, and yet behind what layer 0 has for 18
        settledAre(Check.of("d3;p1n012;w9c21,000,100"), 16, 32, 0);
        settledAre(Check.of("d3;p1n012;w9c21,011,100"), 16, 32, 5);
        // alike in cost: relation, x, y; told ones first
        settledAre(Check.of("d3;p1c10;p1t20,031,013"), 7, 13, 16 + 7, 16 + 13, 32 + 7, 32 + 13);
        settledAre(Check.of("d3;p2c10;p1t20,031,012"), 6, 13, 32 + 7, 32 + 9, 16 + 6, 16 + 13);
        // relations of one layer are mixed by cost
        settledAre(Check.of("d2;p3c10;p1j110,001,012"), 1, 6, 17, 22, 18);
        settledAre(Check.of("d4;p1n110;p1n221;p1n332,300,200,100,000"), 0, 16, 32, 48);
        settledAre(Check.of("d4;p1n001;p1n112;p1n223,300,200,100,000"), 48, 32, 16, 0);
    }

    private void settled() {
        check.says(12, "The k-th (from 0 on) of SETTLED: 16 times the RELATION, 4 x and y together; NONE: there are not so "
                + "many.");
        RoundRules all = Check.of("d4");
        for (int fact = 63; fact >= 0; fact--) {
            check.due("not so many yet", all.settled(63 - fact), -9);
            all.tell(fact / 16, fact / 4 % 4, fact % 4);
            check.due("the last one told is the first", all.settled(0), fact);
        }
        for (int k = 0; k < 64; k++) {
            check.due("all", all.settled(k), k);
        }
        check.due("no sixty-fifth", all.settled(64), -9);
        check.due("far behind", all.settled(Integer.MAX_VALUE), -9);
        check.due("none at all", Check.of("d4").settled(0), -9);
        check.says(12, "OUTSIDE: k below 0; STATE: there is no PROGRAM.");
        RoundRules none = new RoundRules();
        int[] below = {-1, -9, Integer.MIN_VALUE};
        for (int k : below) {
            check.due("OUTSIDE", all.settled(k), -2);
            check.due("OUTSIDE ahead of STATE", none.settled(k), -2);
        }
        check.due("STATE", none.settled(0), -3);
        check.due("STATE", none.settled(Integer.MAX_VALUE), -3);
    }

    private void demandsOfForms() {
        check.says(0, "DEMANDS of a question (a RELATION and a THING x): RELATIONS with first THINGS: that one; and for each "
                + "RULE whose HEAD is of a DEMAND (with first THING x): of form c BODY with x; t: BODY with each THING; j: BODY "
                + "with x, and OTHER with each z such that BODY (x, z) HOLDS; n: BODY and OTHER with x; as a set: bit 4 times "
                + "the RELATION and the THING.");
        for (int x = 0; x < 4; x++) {
            int head = 1 << 8 + x;
            check.due("c", Check.of("d3;p1c20").demands(2, x), head | 1 << x);
            check.due("t", Check.of("d3;p1t20").demands(2, x), head | 15);
            check.due("n", Check.of("d3;p1n201").demands(2, x), head | 1 << x | 16 << x);
            check.due("j, BODY holds nowhere", Check.of("d3;p1j201").demands(2, x), head | 1 << x);
            check.due("n, BODY 1 and OTHER 0", Check.of("d3;p1n210").demands(2, x), head | 16 << x | 1 << x);
            check.due("j, BODY 1", Check.of("d3;p1j210,1" + x + "3").demands(2, x), head | 16 << x | 8);
            check.due("no rule of HEAD", Check.of("d3;p1c02;p1t12").demands(2, x), head);
            for (int z = 0; z < 4; z++) {
                RoundRules joined = Check.of("d3;p1j201,0" + x + z + ",0" + (x + 1) % 4 + "0");
                check.due("j, where BODY holds", joined.demands(2, x), head | 1 << x | 16 << z);
            }
        }
        // where BODY holds, not where it is told
        RoundRules follows = Check.of("d4;p1j201;p1c03,302,303");
        check.due("BODY follows", follows.demands(2, 0), 1 << 8 | 1 | 1 << 12 | 64 | 128);
        check.due("BODY from 1 on", follows.demands(2, 1), 1 << 9 | 2 | 1 << 13);
        // of each first thing of HEAD its own middle things
        check.due("of all first things", Check.of("d4;p1t32;p1j201,001,012").demands(3, 0),
                1 << 12 | 15 << 8 | 15 | 16 * (2 + 4));
        // on and on: 3, 2 by c, 1 by t with all, 0 by c with all
        check.due("on and on", Check.of("d4;p1c32;p1t21;p1c10").demands(3, 3), 1 << 15 | 1 << 11 | 240 | 15);
        check.due("on and on", Check.of("d4;p1c10;p1t21;p1c32").demands(3, 3), 1 << 15 | 1 << 11 | 240 | 15);
        // round: demands of OTHER lead to more of HEAD, and its BODY
        RoundRules round = Check.of("d2;p1j101,001,012,023");
        check.due("round from 0", round.demands(1, 0), 240 | 15);
        check.due("round from 1", round.demands(1, 1), 16 * 14 | 14);
        check.due("round from 3", round.demands(1, 3), 128 | 8);
        check.due("all there can be", Check.of("d4;p1t01;p1t12;p1t23;p1t30").demands(0, 0), 65535);
    }

    private void demands() {
        check.says(13, "DEMANDS, as a set. UNKNOWN; OUTSIDE: x (0 .. 3).");
        RoundRules x = Check.of("d4");
        for (int k = 0; k < 16; k++) {
            check.due("only the question", x.demands(k / 4, k % 4), 1 << k);
        }
        int[] far = {-1, 4, Integer.MIN_VALUE, Integer.MAX_VALUE};
        for (int v : far) {
            check.due("UNKNOWN ahead of OUTSIDE", x.demands(v, v), -1);
            check.due("OUTSIDE", x.demands(3, v), -2);
        }
        RoundRules one = Check.of("d1");
        check.due("UNKNOWN", one.demands(1, 0), -1);
        check.due("its last thing", one.demands(0, 3), 8);
        check.due("UNKNOWN without a program", new RoundRules().demands(0, 9), -1);
        // demands follow what is told and of which form a rule is
        RoundRules y = Check.of("d3;p1j201");
        check.due("BODY holds nowhere", y.demands(2, 0), 257);
        y.tell(0, 0, 3);
        check.due("BODY (0, 3)", y.demands(2, 0), 257 | 128);
        y.form(0, 3);
        check.due("of form n", y.demands(2, 0), 257 | 16);
        y.form(0, 2);
        y.tell(0, 0, 3);
        check.due("as it was", y.demands(2, 0), 257);
    }
}
