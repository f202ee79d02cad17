/** Counts and prints answers that are not the ones that are due. */
final class Check {
    static final String EXAMPLE = "d3;p2c10;b3j110;w1n201;p4t11,001,012,023,033";
    static final String PATHS = "d2;p1c10;p1j110,001,012,023";

    private final String name;
    private int seen;
    private int wrong;

    Check(String name) {
        this.name = name;
    }

    void due(String call, long got, long want) {
        seen++;
        if (got != want) {
            wrong++;
            System.out.println(name + ": " + call + " answered " + got + ", due is " + want);
        }
    }

    void due(String call, boolean isSo) {
        due(call, isSo ? 1 : 0, 1);
    }

    void end() {
        System.out.println(name + ": " + seen + " answers, " + wrong + " wrong");
        if (wrong != 0 || seen == 0) {
            System.exit(1);
        }
    }

    /** A sheet gets a row of a lane with these numbers. */
    static void fill(RoundRules x, int sheet, int lane, int... numbers) {
        x.sheet(sheet, lane, numbers.length);
        for (int i = 0; i < numbers.length; i++) {
            x.put(sheet, i, numbers[i]);
        }
    }

    static int[] codes(String text) {
        return text.chars().toArray();
    }

    /** What the object answers to a text, told by way of sheet 3. */
    static int program(RoundRules x, String text) {
        fill(x, 3, 0, codes(text));
        return x.program(3, 0, 0, text.length());
    }

    static RoundRules of(String text) {
        RoundRules x = new RoundRules();
        program(x, text);
        return x;
    }
}
