import java.io.IOException;
import java.nio.file.Files;
import java.nio.file.Path;
import java.util.ArrayList;
import java.util.List;
import java.util.regex.Matcher;
import java.util.regex.Pattern;

/**
 * The words of DOC.md, by promise (0: the Terms ahead of them), and which of them the edge tests
 * quote, so that a sentence without a test of its own is seen.
 */
final class Document {
    private static final int PROMISES = 29;

    private final String[] words = new String[PROMISES + 1];
    private final boolean[][] quoted = new boolean[PROMISES + 1][];

    Document(Path path) {
        String all = readAll(path);
        for (int promise = 0; promise <= PROMISES; promise++) {
            words[promise] = plain(partOf(all, promise));
            quoted[promise] = new boolean[words[promise].length()];
        }
    }

    private static String readAll(Path path) {
        try {
            return Files.readString(path);
        } catch (IOException notThere) {
            return "";
        }
    }

    private static String partOf(String all, int promise) {
        String head = promise == 0 ? "## Terms\n" : "## Promise " + promise + ":";
        Matcher m = Pattern.compile("(?s)" + head + "(.*?)\n## ").matcher(all);
        return m.find() ? m.group(1) : "";
    }

    /** Without fences, names of parts and the face's lines, and with one space between words. */
    private static String plain(String part) {
        return part.replaceAll("(?m)^(```.*|Ahead of the calls.*|==== \\d| [a-zA-Z ]+$)", "")
                .replaceAll("`[^`]*`: ", "").replaceAll("\\s+", " ").trim();
    }

    boolean isThere() {
        return !words[0].isEmpty();
    }

    /** Whether these words stand in a promise. */
    boolean quote(int promise, String some) {
        int at = words[promise].indexOf(some);
        boolean found = at >= 0;
        while (at >= 0) {
            for (int k = 0; k < some.length(); k++) {
                quoted[promise][at + k] = true;
            }
            at = words[promise].indexOf(some, at + 1);
        }
        return found;
    }

    List<String> unquoted() {
        List<String> left = new ArrayList<>();
        for (int promise = 0; promise <= PROMISES; promise++) {
            StringBuilder run = new StringBuilder();
            for (int k = 0; k <= quoted[promise].length; k++) {
                if (k < quoted[promise].length && !quoted[promise][k]) {
                    run.append(words[promise].charAt(k));
                } else if (run.length() > 0) {
                    if (Pattern.compile("[A-Za-z0-9]").matcher(run).find()) {
                        left.add("promise " + promise + ": " + run.toString().trim());
                    }
                    run.setLength(0);
                }
            }
        }
        return left;
    }
}
