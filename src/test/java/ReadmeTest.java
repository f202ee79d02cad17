import java.io.IOException;
import java.net.URL;
import java.net.URLClassLoader;
import java.nio.file.Files;
import java.nio.file.Path;
import java.util.ArrayList;
import java.util.List;
import java.util.function.Supplier;
import java.util.regex.Matcher;
import java.util.regex.Pattern;
import java.util.stream.Stream;
import javax.tools.ToolProvider;

/** The examples of README.md, as a reader would copy them: they compile, and each call answers what stands behind it. */
public final class ReadmeTest {
    private static final Check check = new Check("ReadmeTest");
    private static final Pattern BLOCK = Pattern.compile("(?s)```java\n(.*?)```");
    private static final Pattern CALL = Pattern.compile("^(x\\.(\\w+)\\(.*\\)); *// (-?\\d+|[A-Z]+)\\b.*$");

    private final List<String> calls = new ArrayList<>();
    private final List<String> names = new ArrayList<>();
    private final List<Long> dues = new ArrayList<>();

    public static void main(String[] args) throws Exception {
        String page = Files.readString(Path.of("README.md"));
        ReadmeTest test = new ReadmeTest();
        test.examples(page);
        test.eachCallHasAnExample();
        eachTestIsNamed(page);
        check.end();
    }

    private void examples(String page) throws Exception {
        StringBuilder body = new StringBuilder();
        Matcher blocks = BLOCK.matcher(page);
        while (blocks.find()) {
            for (String line : blocks.group(1).split("\n")) {
                body.append(kept(line)).append('\n');
            }
        }
        long[] got = answers(body.toString());
        check.due("how many examples are asked", got.length, dues.size());
        for (int k = 0; k < Math.min(got.length, dues.size()); k++) {
            check.due("README: " + calls.get(k), got[k], dues.get(k));
        }
    }

    /** A call with an answer behind it, so that what it answers is kept; any other line as it is. */
    private String kept(String line) throws ReflectiveOperationException {
        Matcher call = CALL.matcher(line);
        if (!call.matches()) {
            return line;
        }
        calls.add(call.group(1));
        names.add(call.group(2));
        String due = call.group(3);
        dues.add(due.matches("[A-Z]+") ? RoundRules.class.getField(due).getLong(null) : Long.parseLong(due));
        return "got[count++] = " + call.group(1) + ";";
    }

    private long[] answers(String body) throws Exception {
        String source = "public final class ReadmeRun implements java.util.function.Supplier<long[]> {\n"
                + "public ReadmeRun() { }\n"
                + "public long[] get() {\nlong[] got = new long[" + dues.size() + "];\nint count = 0;\n"
                + body + "return java.util.Arrays.copyOf(got, count);\n}\n}\n";
        Path folder = Files.createDirectories(Path.of("build", "readme"));
        Path file = Files.writeString(folder.resolve("ReadmeRun.java"), source);
        String own = System.getProperty("java.class.path");
        int exit = ToolProvider.getSystemJavaCompiler().run(null, null, null,
                "-cp", own, "-d", folder.toString(), file.toString());
        check.due("the examples compile", exit, 0);
        if (exit != 0) {
            return new long[0];
        }
        try (URLClassLoader loader = new URLClassLoader(new URL[] {folder.toUri().toURL()})) {
            Object run = loader.loadClass("ReadmeRun").getDeclaredConstructor().newInstance();
            return (long[]) ((Supplier<?>) run).get();
        }
    }

    private void eachCallHasAnExample() {
        for (int which = 0; which < Calls.COUNT; which++) {
            check.due("an example of " + Calls.nameOf(which), names.contains(Calls.nameOf(which)));
        }
    }

    private static void eachTestIsNamed(String page) throws IOException {
        try (Stream<Path> files = Files.list(Path.of("src/test/java"))) {
            for (Path file : files.toList()) {
                String name = file.getFileName().toString().replace(".java", "");
                if (name.endsWith("Test")) {
                    check.due(name + " is named", page.contains("`" + name + "`"));
                }
            }
        }
    }
}
