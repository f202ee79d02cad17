import java.util.Random;

/** Promises 2 to 18 against the model, on many programs that chance (always the same) makes. */
public final class ModelTest {
    private static final Check check = new Check("ModelTest");
    private static final Random chance = new Random(20261118);

    public static void main(String[] args) {
        for (int run = 0; run < 1500; run++) {
            faultyTexts();
        }
        for (int run = 0; run < 700; run++) {
            runOfProgram(run);
        }
        check.end();
    }

    private static void faultyTexts() {
        String text = Texts.spoiled(chance);
        RoundRules x = new RoundRules();
        check.due(text, Check.program(x, text), new Model().program(text));
    }

    private static void runOfProgram(int run) {
        RoundRules x = new RoundRules();
        Model m = new Model();
        String text = Texts.text(chance);
        check.due(text, Check.program(x, text), m.program(text));
        if (m.relations == 0) {
            return;
        }
        for (int change = 0; change < 4; change++) {
            m.settle();
            compareRelations(text, x, m);
            compareFacts(text, x, m);
            compareRules(text, x, m);
            compareDay(text, x, m);
            changeBoth(text, x, m);
        }
    }

    private static void compareRelations(String text, RoundRules x, Model m) {
        check.due(text + " rounds", x.rounds(), m.rounds);
        check.due(text + " many(2)", x.many(2), m.born.size());
        check.due(text + " many(3)", x.many(3), m.told.size());
        for (int k = 0; k < m.rounds + 2; k++) {
            check.due(text + " born " + k, x.born(k), m.bornIn(k));
        }
        for (int k = 0; k < 66; k++) {
            check.due(text + " settled " + k, x.settled(k), m.settled(k));
        }
        for (int q = 0; q < m.relations; q++) {
            check.due(text + " layer of " + q, x.ofRelation(q, 0), m.layers[q]);
            check.due(text + " holds of " + q, x.ofRelation(q, 1), m.held(q));
            check.due(text + " told of " + q, x.ofRelation(q, 2), m.toldOf(q));
            check.due(text + " odds of " + q, x.odds(q, 0), m.odds(q, 0));
            check.due(text + " odds of " + q, x.odds(q, 1), m.odds(q, 1));
            for (int k = 0; k < 18; k++) {
                check.due(text + " ranked " + q + " " + k, x.ranked(q, k), m.ranked(q, k));
            }
            for (int thing = 0; thing < 4; thing++) {
                check.due(text + " demands " + q + " " + thing, x.demands(q, thing), m.demands(q, thing));
            }
        }
    }

    private static void compareFacts(String text, RoundRules x, Model m) {
        for (int k = 0; k < 16 * m.relations; k++) {
            Model.Fact f = new Model.Fact(k / 16, k / 4 % 4, k % 4);
            for (int what = 0; what < 6; what++) {
                check.due(text + " of " + f + " " + what, x.ofFact(f.q(), f.x(), f.y(), what), m.ofFact(f, what));
            }
        }
    }

    private static void compareRules(String text, RoundRules x, Model m) {
        for (int r = 0; r < m.rules.size(); r++) {
            check.due(text + " kinds of " + r, x.kinds(r), m.kinds(r));
            check.due(text + " forms of " + r, x.forms(r), m.forms(r));
            check.due(text + " cost of " + r, x.ofRule(r, 2), m.rules.get(r).cost());
            check.due(text + " form of " + r, x.ofRule(r, 3), m.rules.get(r).form());
        }
    }

    private static void compareDay(String text, RoundRules x, Model m) {
        int[] threes = Texts.threes(chance);
        Check.fill(x, 0, 1, threes);
        int[] whats = {0, 1, 2, 3, 4, 10, 11, 12, 13};
        for (int what : whats) {
            check.due(text + " a day, " + what, x.day(0, 1, 0, threes.length / 3, what), m.day(threes, what));
        }
    }

    private static void changeBoth(String text, RoundRules x, Model m) {
        for (int k = chance.nextInt(3); k > 0; k--) {
            Model.Fact f = new Model.Fact(chance.nextInt(m.relations), chance.nextInt(4), chance.nextInt(4));
            check.due(text + " tell", x.tell(f.q(), f.x(), f.y()), m.tell(f));
        }
        if (!m.rules.isEmpty()) {
            int r = chance.nextInt(m.rules.size());
            int form = chance.nextInt(6) - 1;
            check.due(text + " form", x.form(r, form), m.form(r, form));
        }
        if (m.readings.size() < 8) {
            Model.Fact f = new Model.Fact(chance.nextInt(m.relations), chance.nextInt(4), chance.nextInt(4));
            m.settle();
            // most readings are so, that not all kinds and forms fall away at once
            int cheap = chance.nextInt(5) == 0 ? chance.nextInt(20) : m.ofFact(f, 3);
            check.due(text + " reading", x.reading(f.q(), f.x(), f.y(), cheap), m.readings.size());
            m.readings.add(new Model.Reading(f, cheap));
        }
    }
}
