/** The calls of the face by number, in its order. */
final class Calls {
    private static final String[] NAMES = {"program", "ofRule", "ofRelation", "form", "tell", "ofFact", "day", "rounds",
        "born", "ranked", "settled", "demands", "reading", "back", "kinds", "forms", "odds", "sheet", "lose", "put",
        "cell", "copy", "speak", "quote", "as", "trace", "fault", "many"};
    static final int COUNT = NAMES.length;

    private Calls() {
    }

    static String nameOf(int which) {
        return NAMES[which];
    }

    static long on(RoundRules x, int which, int a, int b, int c, int d, int e) {
        switch (which) {
            case 0: return x.program(a, b, c, d);
            case 1: return x.ofRule(a, b);
            case 2: return x.ofRelation(a, b);
            case 3: return x.form(a, b);
            case 4: return x.tell(a, b, c);
            case 5: return x.ofFact(a, b, c, d);
            case 6: return x.day(a, b, c, d, e);
            case 7: return x.rounds();
            case 8: return x.born(a);
            case 9: return x.ranked(a, b);
            case 10: return x.settled(a);
            case 11: return x.demands(a, b);
            case 12: return x.reading(a, b, c, d);
            case 13: return x.back(a);
            case 14: return x.kinds(a);
            case 15: return x.forms(a);
            case 16: return x.odds(a, b);
            case 17: return x.sheet(a, b, c);
            case 18: return x.lose(a);
            case 19: return x.put(a, b, c);
            case 20: return x.cell(a, b, c);
            case 21: return x.copy(a, b, c, d, e);
            case 22: return x.speak(a);
            case 23: return x.quote(a);
            case 24: return x.as(a, b);
            case 25: return x.trace();
            case 26: return x.fault();
            default: return x.many(a);
        }
    }
}
