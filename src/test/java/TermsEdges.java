/** The Terms on TEXTS, COST, forms, LAYERS and what HOLDS, sentence by sentence. */
final class TermsEdges {
    /** A text with all kinds and forms, and of each of its places what may stand there. */
    private static final String TEXT = "d3;p1c10;b9t00;w5j110;p7n201,000,233";
    private static final String MASK = "DRSKPFQQSKPFQQSKPFQQQSKPFQQQSQXXCQXX";

    private final Check check;

    TermsEdges(Check check) {
        this.check = check;
    }

    void run() {
        things();
        sets();
        counts();
        codes();
        otherLanes();
        endsTooSoon();
        toldAhead();
        sixths();
        allAnew();
        kindsAndCosts();
        forms();
        layers();
        goesRound();
        holds();
    }

    private int answer(String text) {
        return Check.program(new RoundRules(), text);
    }

    private void text(String text, int due) {
        check.due(text, answer(text), due);
    }

    private void things() {
        check.says(0, "THINGS are 0 .. 3; a FACT is a RELATION and two THINGS (x, y).");
        for (int q = 0; q < 4; q++) {
            for (int two = 0; two < 16; two++) {
                RoundRules x = Check.of("d4," + q + two / 4 + two % 4);
                for (int fact = 0; fact < 64; fact++) {
                    check.due("just one fact", x.ofFact(fact / 16, fact / 4 % 4, fact % 4, 0),
                            fact == 16 * q + two ? 1 : 0);
                }
            }
        }
    }

    private void sets() {
        check.says(0, "Sets are told as bits (bit k for number k).");
        check.due("rules 0 and 4", Check.of("d2;p1c00;p1c10;p1c11;p1c10;p1c01").ofRelation(0, 3), 17);
        check.due("relation 3 with thing 3", Check.of("d4").demands(3, 3), 1 << 15);
        check.due("relation 0 with thing 0", Check.of("d4").demands(0, 0), 1);
        check.says(0, "Shares are told as upper and lower number (above 0) in least terms.");
        check.due("none of sixteen", Check.of("d1").odds(0, 0), 0);
        check.due("none of sixteen", Check.of("d1").odds(0, 1), 1);
    }

    private void counts() {
        check.says(0, "A PROGRAM by a TEXT: d, a digit 1 .. 4 (how many RELATIONS, numbered from 0 on), then 0 to 5 RULES, "
                + "numbered from 0 on, each: ; and a letter (its kind), a digit 1 .. 9 (PRICE), a letter (its form), its "
                + "HEAD, its BODY: a RELATION each (digits); of forms j and n then a second one (OTHER); then 0 to 5 FACTS "
                + "that are TOLD, each: a comma, a RELATION, x, y (digits), such that it was not told ahead.");
        for (int d = 0; d <= 9; d++) {
            boolean isThere = d >= 1 && d <= 4;
            text("d" + d, isThere ? 0 : -101);
            check.due("relations of d" + d, Check.of("d" + d).many(0), isThere ? d : 0);
            for (int q = 0; q <= 9 && isThere; q++) {
                text("d" + d + ";p1c" + q + "0", q < d ? 1 : -106);
                text("d" + d + ";p1c0" + q, q < d ? 1 : -107);
                text("d" + d + ";p1j00" + q, q < d ? 1 : -108);
                text("d" + d + "," + q + "00", q < d ? 0 : -103);
            }
        }
        for (int rules = 0; rules <= 5; rules++) {
            for (int facts = 0; facts <= 5; facts++) {
                String told = ",133,100,103,130,122".substring(0, 4 * facts);
                RoundRules x = new RoundRules();
                check.due("rules", Check.program(x, "d2" + ";w9j111".repeat(rules) + told), rules);
                check.due("rules", x.many(1), rules);
                check.due("told", x.many(3), facts);
            }
        }
    }

    private static String allowed(char part) {
        switch (part) {
            case 'D': return "d";
            case 'R': return "1234";
            case 'S': return ";,";
            case 'K': return "pbw";
            case 'P': return "123456789";
            case 'F': return "ctjn";
            case 'Q': return "012";
            case 'C': return ",";
            default: return "0123";
        }
    }

    private void codes() {
        check.says(0, "FIRST FAULT: the place (from 0 on) of the first code with which no TEXT goes on,");
        check.says(0, "(Codes: d 100, p 112, b 98, w 119, ; 59, the comma 44, c 99, t 116, j 106, n 110, digits 48 .. 57.)");
        text(TEXT, 4);
        int[] codes = Check.codes(TEXT);
        for (int place = 0; place < codes.length; place++) {
            for (int code = -128; code < 128; code++) {
                RoundRules x = new RoundRules();
                Check.fill(x, 0, 0, codes);
                x.put(0, place, code);
                boolean goesOn = allowed(MASK.charAt(place)).indexOf(code) >= 0;
                boolean stops = x.program(0, 0, 0, codes.length) == -100 - place;
                check.due("code " + code + " at place " + place, stops != goesOn);
            }
        }
        int[] told = {100, 49, 59, 112, 49, 99, 48, 48, 59, 98, 50, 116, 48, 48, 59, 119, 51, 106, 48, 48, 48, 44, 48, 48, 51};
        RoundRules x = new RoundRules();
        Check.fill(x, 0, 0, told);
        check.due("a text by its codes", x.program(0, 0, 0, told.length), 3);
        check.due("the code of n", answer("d2;p1" + (char) 110 + "100"), 1);
    }

    /** A number of a wider lane that is a code only when cut is none. */
    private void otherLanes() {
        int[] codes = Check.codes(TEXT);
        for (int lane = 1; lane < 3; lane++) {
            int[] off = lane == 1 ? new int[] {256, -256, 0x7F00, -0x8000}
                    : new int[] {256, -256, 65536, -65536, 1 << 24, Integer.MIN_VALUE};
            for (int place = 0; place < codes.length; place++) {
                for (int by : off) {
                    RoundRules x = new RoundRules();
                    Check.fill(x, 0, lane, codes);
                    x.put(0, place, codes[place] + by);
                    check.due("a code that is " + by + " off", x.program(0, lane, 0, codes.length), -100 - place);
                }
            }
            RoundRules x = new RoundRules();
            Check.fill(x, 0, lane, codes);
            check.due("the text in lane " + lane, x.program(0, lane, 0, codes.length), 4);
        }
    }

    private void endsTooSoon() {
        check.says(0, "how many codes there are, if it just ends too soon.");
        int[] parts = {2, 8, 14, 21, 28, 32, 36};
        int[] rules = {0, 1, 2, 3, 4, 4, 4};
        int part = 0;
        for (int n = 0; n <= TEXT.length(); n++) {
            if (n == parts[part]) {
                text(TEXT.substring(0, n), rules[part++]);
            } else {
                text(TEXT.substring(0, n), -100 - n);
            }
        }
    }

    private void toldAhead() {
        check.says(0, "each part looked at alone (so of a FACT that was told ahead its last digit; the ; of a sixth RULE, "
                + "the comma of a sixth FACT);");
        text("d1,000,000", -109);
        text("d1,012,000,012", -113);
        text("d1,012,000,001,033,012", -121);
        text("d2,012,112", 0);
        text("d1,012,021", 0);
        // no last digit would do here, yet the digits ahead of it are looked at alone
        text("d1,000,001,002,003,000", -121);
        text("d1,000,001,002,003,00", -121);
        text("d1,000,001,002,003,004", -121);
        text("d1,000,000,000", -109);
        text("d1,000,000x", -109);
        RoundRules x = Check.of("d1,000");
        check.due("told by the text that is gone", Check.program(x, "d1,000"), 0);
        // a text that tells twice and goes round: the fault is looked for first
        text("d2;p1n011;p1n100,000,000", -123);
        text("d2;p1n011;p1n100,000", -200);
    }

    private void sixths() {
        String five = "d4" + ";p1c00".repeat(5);
        text(five, 5);
        text(five + ";", -132);
        text(five + ";p1c00", -132);
        text(five + ";x", -132);
        text(five + ",000", 5);
        text(five + "x", -132);
        String told = ",000,111,222,333,012";
        text("d4" + told, 0);
        text("d4" + told + ",", -122);
        text("d4" + told + ",001", -122);
        text("d4" + told + ",000", -122);
        text("d4" + told + ";p1c00", -122);
        text(five + told, 5);
        text(five + told + ",", -152);
        String longest = "d4" + ";w9j333".repeat(5) + told;
        check.due("the longest text", longest.length(), 57);
        text(longest, 5);
        text(longest + "   ", -157);
    }

    private void allAnew() {
        check.says(0, "A TEXT that is taken makes all anew: no READINGS.");
        RoundRules x = Check.of("d4;w9j012;w9j333,000,111,222,333");
        for (int k = 0; k < 8; k++) {
            x.reading(3, 0, 0, k);
        }
        x.tell(3, 1, 1);
        x.form(0, 3);
        check.due("the least text", Check.program(x, "d1"), 0);
        int[] due = {1, 0, 0, 0, 0};
        for (int what = 0; what < 5; what++) {
            check.due("many " + what, x.many(what), due[what]);
        }
        check.due("no rule", x.ofRule(0, 0), -1);
        check.due("no relation 1", x.ofRelation(1, 0), -1);
        check.due("no rounds", x.rounds(), 0);
        check.due("nothing is settled", x.settled(0), -9);
        check.due("readings are numbered anew", x.reading(0, 0, 0, 7), 0);
        check.due("the same text again", Check.program(x, "d1"), 0);
        check.due("no readings again", x.many(4), 0);
    }

    private void kindsAndCosts() {
        check.says(0, "Kinds: 0 PLAIN (p); 1 BULKY (b), a PLAIN one; 2 DOUBLE (w), a BULKY one.");
        check.says(0, "COST of a RULE: of a PLAIN one PRICE; of a BULKY one 1 more; of a DOUBLE one twice what a PLAIN "
                + "one's is.");
        for (int price = 1; price <= 9; price++) {
            RoundRules x = Check.of("d1;p" + price + "c00;b" + price + "c00;w" + price + "c00");
            int[] costs = {price, price + 1, price + price};
            for (int kind = 0; kind < 3; kind++) {
                check.due("kind", x.ofRule(kind, 0), kind);
                check.due("PRICE", x.ofRule(kind, 1), price);
                check.due("COST", x.ofRule(kind, 2), costs[kind]);
            }
        }
    }

    /** Of one fact of BODY (and one of OTHER), for all things: just what follows. */
    private void forms() {
        check.says(0, "Forms: 0 c: HEAD (x, y) follows from BODY (x, y); 1 t: from BODY (y, x); 2 j: from BODY (x, z) and "
                + "OTHER (z, y), for any THING z; 3 n: from BODY (x, y), if OTHER (x, y) does not HOLD.");
        for (int one = 0; one < 16; one++) {
            int x = one / 4;
            int y = one % 4;
            onlyHead("d3;p1c20,0" + x + y, 1 << one);
            onlyHead("d3;p1t20,0" + x + y, 1 << 4 * y + x);
            for (int two = 0; two < 16; two++) {
                String told = ",0" + x + y + ",1" + two / 4 + two % 4;
                onlyHead("d3;p1j201" + told, two / 4 == y ? 1 << 4 * x + two % 4 : 0);
                onlyHead("d3;p1n201" + told, two == one ? 0 : 1 << one);
            }
        }
    }

    private void onlyHead(String text, int twos) {
        RoundRules x = Check.of(text);
        for (int two = 0; two < 16; two++) {
            check.due(text + " holds " + two, x.ofFact(2, two / 4, two % 4, 0), twos >> two & 1);
        }
        check.due(text + " of HEAD", x.ofRelation(2, 1), Integer.bitCount(twos));
    }

    private void layersAre(String text, int... due) {
        RoundRules x = Check.of(text);
        for (int q = 0; q < due.length; q++) {
            check.due(text + " layer of " + q, x.ofRelation(q, 0), due[q]);
        }
    }

    private void layers() {
        check.says(0, "LAYERS of RELATIONS are the least numbers from 0 on such that for each RULE that of HEAD is no less "
                + "than those of BODY, OTHER, and of form n greater than that of OTHER.");
        layersAre("d1", 0);
        layersAre("d4", 0, 0, 0, 0);
        layersAre("d4;p1n110;p1n221;p1n332", 0, 1, 2, 3);
        layersAre("d4;p1n001;p1n112;p1n223", 3, 2, 1, 0);
        layersAre("d4;p1n332;p1n221;p1n110", 0, 1, 2, 3);
        layersAre("d4;p1n223;p1n112;p1n001", 3, 2, 1, 0);
        // BODY, and OTHER of form j, lift no higher than they are; HEAD, lifted, lifts nothing below
        layersAre("d4;p1n010;p1c00", -1);
        layersAre("d4;p1n001;p1c20;p1t32;p1c23", 1, 0, 1, 1);
        layersAre("d4;p1n001;p1j321", 1, 0, 0, 0);
        layersAre("d4;p1n001;p1j320", 1, 0, 0, 1);
        layersAre("d4;p1n001;p1j302", 1, 0, 0, 1);
        layersAre("d4;p1n001;p1n230;p1n203", 1, 0, 2, 0);
        layersAre("d4;p1n001;p1n302;p1n320", 1, 0, 0, 2);
        layersAre("d4;p1c01;p1c12;p1c23;p1c30", 0, 0, 0, 0);
        layersAre("d4;p1c01;p1c12;p1c20;p1n003;p1n001", -1);
        layersAre("d4;p1c01;p1c12;p1c20;p1n003", 1, 1, 1, 0);
    }

    private void goesRound() {
        check.says(0, "A PROGRAM is LAYERED, if there are such numbers; if there are none, it GOES ROUND by the least "
                + "RELATION from which RULES lead back to itself (from BODY, OTHER to HEAD) past at least one OTHER of "
                + "form n.");
        for (int q = 0; q < 4; q++) {
            int by = q;
            int aside = q == 0 ? 1 : 0;
            text("d4;p1n" + q + q + q, -200 - by);
            text("d4;p1n" + q + aside + q, -200 - by);
            text("d4;p1n" + q + q + aside, 1);
            text("d4;p1j" + q + q + q, 1);
        }
        // 0 leads to 1, that past itself to 1, and that back to 0
        text("d4;p1n101;p1c01", -200);
        // all four in one round, whichever the step past n
        text("d4;p1n110;p1c21;p1c32;p1c03", -200);
        text("d4;p1c10;p1n221;p1c32;p1c03", -200);
        text("d4;p1c10;p1c21;p1n332;p1c03", -200);
        text("d4;p1c10;p1c21;p1c32;p1n003", -200);
        text("d4;p1c10;p1c21;p1c32;p1c03", 4);
        // by way of BODY of form n, or OTHER of form j, nothing is past an OTHER of form n
        text("d4;p1n120;p1c21", 2);
        text("d4;p1j102;p1j210", 2);
        text("d4;p1n123;p1n213", 2);
        // two rounds: the least; the last rule alone makes it
        text("d4;p1n332;p1n223;p1n101;p1n110", -201);
        text("d4;p1n332;p1n223;p1c10;p1c01", -202);
        text("d4;p1c10;p1c01;p1c21;p1c32;p1n232", -202);
        // 2 leads to 0 and 1 to 2, but neither is led back to
        text("d3;p1n212;p1c02", -202);
        // a round without n that hangs on one with it, both ways
        text("d4;p1c10;p1c01;p1c12;p1n213", 4);
        text("d4;p1c10;p1c01;p1c12;p1n231", -200);
    }

    private void holds() {
        check.says(0, "A FACT HOLDS, if it is TOLD, or follows by a RULE from FACTS that HOLD (OTHER of form n being all "
                + "settled by then, LAYER by LAYER).");
        // OTHER (0, 3) comes only in the third round of its layer, yet it keeps 2 (0, 3) away
        RoundRules x = Check.of("d3;p1n201;p1c10;p1j111,001,012,023");
        check.due("nothing of 2", x.ofRelation(2, 1), 0);
        RoundRules y = Check.of("d4;p1n231;p1c10;p1j111,001,012,023,303");
        check.due("1 (0, 3) holds", y.ofFact(1, 0, 3, 2), 3);
        check.due("so 2 (0, 3) does not", y.ofFact(2, 0, 3, 0), 0);
        // a fact that is told holds, though nothing else follows, and though OTHER holds
        RoundRules z = Check.of("d2;p1n100,000,100");
        check.due("it goes round by none", z.many(1), 1);
        check.due("told, it holds", z.ofFact(1, 0, 0, 0), 1);
        RoundRules told = Check.of("d3;p1n201,033,133,233");
        check.due("told, it holds", told.ofFact(2, 3, 3, 0), 1);
        told.tell(2, 3, 3);
        check.due("untold, it does not", told.ofFact(2, 3, 3, 0), 0);
        told.tell(1, 3, 3);
        check.due("now it follows", told.ofFact(2, 3, 3, 0), 1);
        // facts that would only follow from one another do not hold
        check.due("round for nothing", Check.of("d2;p1c10;p1c01;p1j111;p1t00").many(2), 0);
        check.due("all that can", Check.of("d1;p1t00;p1j000,001,012,023").many(2), 16);
    }
}
