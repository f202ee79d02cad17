import java.nio.file.Path;

/** Counts and prints answers that are not the ones that are due. */
final class Check {
    static final String EXAMPLE = "d3;p2c10;b3j110;w1n201;p4t11,001,012,023,033";
    static final String PATHS = "d2;p1c10;p1j110,001,012,023";

    private final String name;
    private final Document document = new Document(Path.of("../shared/DOC.md"));
    private String said = "";
    private int seen;
    private int wrong;

    Check(String name) {
        this.name = name;
    }

    /** The words of the document (of a promise; 0: of the Terms) by which the answers that come now are due. */
    void says(int promise, String words) {
        said = " [" + promise + ": " + words + "]";
        if (document.isThere() && !document.quote(promise, words)) {
            System.out.println(name + ": the document does not say" + said);
        }
    }

    /** Tells what of the document no test quoted; it fails nothing, for the document may get other words. */
    void tellUnquoted() {
        for (String words : document.unquoted()) {
            System.out.println(name + ": not quoted, " + words);
        }
    }

    void due(String call, long got, long want) {
        seen++;
        if (got != want) {
            wrong++;
            System.out.println(name + ": " + call + " answered " + got + ", due is " + want + said);
        }
    }

    void due(String call, boolean isSo) {
        due(call, isSo ? 1 : 0, 1);
    }

    void end() {
        System.out.println(name + ": " + seen + " answers, " + wrong + " wrong");
        if (wrong != 0 || seen == 0) {
            System.exit(1);
        }
    }

    /** A sheet gets a row of a lane with these numbers. */
    static void fill(RoundRules x, int sheet, int lane, int... numbers) {
        x.sheet(sheet, lane, numbers.length);
        for (int i = 0; i < numbers.length; i++) {
            x.put(sheet, i, numbers[i]);
        }
    }

    static int[] codes(String text) {
        return text.chars().toArray();
    }

    /** What the object answers to a text, told by way of sheet 3. */
    static int program(RoundRules x, String text) {
        fill(x, 3, 0, codes(text));
        return x.program(3, 0, 0, text.length());
    }

    static RoundRules of(String text) {
        RoundRules x = new RoundRules();
        program(x, text);
        return x;
    }

    /** What the object answers to a day of these threes, told by way of sheet 0, in ints. */
    static int day(RoundRules x, int what, int... threes) {
        fill(x, 0, 2, threes);
        return x.day(0, 2, 0, threes.length / 3, what);
    }
}
