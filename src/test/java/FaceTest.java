import java.io.IOException;
import java.lang.reflect.Field;
import java.lang.reflect.Method;
import java.lang.reflect.Modifier;
import java.nio.file.Files;
import java.nio.file.Path;
import java.util.Arrays;
import java.util.HashSet;
import java.util.Set;
import java.util.TreeSet;
import java.util.regex.Matcher;
import java.util.regex.Pattern;

/** The public face is the document's, and the source keeps to what LANGUAGE.md leaves. */
public final class FaceTest {
    private static final Check check = new Check("FaceTest");

    private static final String[] FACE = {
        "int program(int,int,int,int)", "int ofRule(int,int)", "int ofRelation(int,int)", "int form(int,int)",
        "int tell(int,int,int)", "int ofFact(int,int,int,int)", "int day(int,int,int,int,int)", "int rounds()",
        "int born(int)", "int ranked(int,int)", "int settled(int)", "int demands(int,int)",
        "int reading(int,int,int,int)", "int back(int)", "int kinds(int)", "int forms(int)",
        "long odds(int,int)", "int sheet(int,int,int)", "int lose(int)", "int put(int,int,int)",
        "long cell(int,int,int)", "int copy(int,int,int,int,int)", "int speak(int)", "int quote(int)",
        "int as(int,int)", "int trace()", "int fault()", "int many(int)"};

    private static final String[] CONSTANTS = {"FULL", "LOST", "NONE", "OUTSIDE", "STATE", "UNKNOWN"};

    private static final String[] BANNED = {
        "throw", "throws", "try", "catch", "synchronized", "assert", "protected", "package", "native",
        "volatile", "transient", "var", "System.out", "System.nanoTime", "System.currentTimeMillis", "Random",
        "Thread", "Exact", "hashCode", "toString", "Object", "Class", "HashMap", "HashSet", "Collections",
        "Arrays.sort", "Arrays.asList", "Arrays.equals", "Character", "Optional", "Stream"};

    public static void main(String[] args) throws IOException {
        face();
        constants();
        nestedClasses();
        source(Files.readString(Path.of(args.length > 0 ? args[0] : "src/main/java/RoundRules.java")));
        check.end();
    }

    private static void face() {
        Set<String> due = new TreeSet<>(Arrays.asList(FACE));
        Set<String> seen = new TreeSet<>();
        Set<String> names = new HashSet<>();
        for (Method m : RoundRules.class.getDeclaredMethods()) {
            if (Modifier.isPublic(m.getModifiers())) {
                seen.add(signature(m));
                names.add(m.getName());
            }
        }
        check.due("the public methods are " + seen, seen.equals(due));
        for (Method m : RoundRules.class.getDeclaredMethods()) {
            boolean isPublic = Modifier.isPublic(m.getModifiers());
            check.due(m + " is public or private", isPublic || Modifier.isPrivate(m.getModifiers()));
            check.due(m + " bears a name of its own", isPublic || !names.contains(m.getName()));
            check.due(m + " takes at most seven", m.getParameterCount() <= 7);
        }
        check.due("the class is public and final", RoundRules.class.getModifiers() == (Modifier.PUBLIC | Modifier.FINAL));
        check.due("one constructor", RoundRules.class.getDeclaredConstructors().length, 1);
        check.due("it is public", RoundRules.class.getConstructors().length, 1);
    }

    private static String signature(Method m) {
        StringBuilder text = new StringBuilder(m.getReturnType() + " " + m.getName() + "(");
        String between = "";
        for (Class<?> type : m.getParameterTypes()) {
            text.append(between).append(type);
            between = ",";
        }
        return text.append(')').toString();
    }

    private static void constants() {
        check.due("UNKNOWN", RoundRules.UNKNOWN, -1);
        check.due("OUTSIDE", RoundRules.OUTSIDE, -2);
        check.due("STATE", RoundRules.STATE, -3);
        check.due("FULL", RoundRules.FULL, -4);
        check.due("NONE", RoundRules.NONE, -9);
        check.due("LOST", RoundRules.LOST, Long.MIN_VALUE);
        Set<String> seen = new TreeSet<>();
        int fields = 0;
        for (Field f : RoundRules.class.getDeclaredFields()) {
            int how = f.getModifiers();
            if (Modifier.isPublic(how)) {
                seen.add(f.getName());
            } else {
                check.due(f + " is private", Modifier.isPrivate(how));
            }
            check.due(f + " is final, if static", !Modifier.isStatic(how) || Modifier.isFinal(how));
            fields += Modifier.isStatic(how) ? 0 : 1;
        }
        check.due("the public constants are " + seen, seen.equals(new TreeSet<>(Arrays.asList(CONSTANTS))));
        check.due("some twenty fields", fields <= 20);
    }

    private static void nestedClasses() {
        Class<?>[] inside = RoundRules.class.getDeclaredClasses();
        check.due("some twelve classes", inside.length < 12);
        Set<String> names = new HashSet<>();
        for (String method : FACE) {
            names.add(method.substring(method.indexOf(' ') + 1, method.indexOf('(')));
        }
        for (Class<?> c : inside) {
            int how = c.getModifiers();
            check.due(c + " is static and not public", Modifier.isStatic(how) && !Modifier.isPublic(how));
            check.due(c + " has some twenty fields", c.getDeclaredFields().length <= 20);
            for (Method m : c.getDeclaredMethods()) {
                check.due(m + " bears a name of its own", !names.contains(m.getName()));
                check.due(m + " takes at most seven", m.getParameterCount() <= 7);
            }
        }
    }

    private static void source(String source) {
        String code = source.replaceAll("(?s)/\\*.*?\\*/", "").replaceAll("//[^\n]*", "");
        for (String word : BANNED) {
            Pattern whole = Pattern.compile("(?<![A-Za-z.])" + Pattern.quote(word) + "(?![A-Za-z])");
            check.due("no word " + word, !whole.matcher(code).find());
        }
        check.due("no lambda", !code.contains("->"));
        check.due("no method reference", !code.contains("::"));
        check.due("no while without an end", !Pattern.compile("\\bwhile\\b").matcher(code).find());
        Matcher imports = Pattern.compile("import ([^;]*);").matcher(code);
        while (imports.find()) {
            check.due("imports but " + imports.group(1), imports.group(1).equals("java.util.Arrays"));
        }
        Matcher library = Pattern.compile("\\b(Arrays|System|Math|Integer|Long)\\.(\\w+)").matcher(code);
        Set<String> allowed = new HashSet<>(Arrays.asList("Arrays.fill", "System.arraycopy", "Math.min", "Math.max",
                "Integer.bitCount", "Long.MIN_VALUE"));
        while (library.find()) {
            check.due("uses but " + library.group(), allowed.contains(library.group()));
        }
        shortMethods(code);
    }

    private static void shortMethods(String code) {
        String[] lines = code.split("\n");
        int begun = 0;
        for (int k = 0; k < lines.length; k++) {
            if (lines[k].matches(" {4}( {4})?[a-z].*\\) \\{")) {
                begun = k;
            }
            if (lines[k].matches(" {4}( {4})?\\}")) {
                check.due("the method in line " + begun + " is short", k - begun < 60);
            }
        }
    }
}
