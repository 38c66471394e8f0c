import java.io.IOException;
import java.lang.reflect.Method;
import java.lang.reflect.Modifier;
import java.net.URL;
import java.net.URLClassLoader;
import java.nio.file.Files;
import java.nio.file.Path;
import java.util.ArrayList;
import java.util.List;
import java.util.regex.Matcher;
import java.util.regex.Pattern;
import javax.tools.JavaCompiler;
import javax.tools.ToolProvider;

/** The examples of README.md: they compile, they answer what stands behind them, and they show the whole face. */
public final class ReadmeTest {
    private static final String FENCE = "```";
    private static final Pattern ANSWERED = Pattern.compile("(fund\\.(\\w+)\\(.*\\)); *// (-?\\d+|[A-Z]+)(:? .*)?");

    private final List<String> calls = new ArrayList<>();
    private final List<Long> due = new ArrayList<>();
    private final StringBuilder shown = new StringBuilder();
    private final StringBuilder code = new StringBuilder();

    private ReadmeTest() {
    }

    public static void main(String[] args) throws Exception {
        Path readme = Path.of(args.length > 0 ? args[0] : ".", "README.md");
        ReadmeTest test = new ReadmeTest();
        test.gather(Files.readAllLines(readme));
        test.showsTheFace();
        long[] got = test.answers();
        for (int i = 0; i < test.calls.size(); i++) {
            Check.due("README: " + test.calls.get(i), got[i], test.due.get(i));
        }
        Check.end("ReadmeTest");
    }

    /** All java blocks are one run, so they become one method. */
    private void gather(List<String> lines) {
        boolean inJava = false;
        for (String line : lines) {
            if (line.startsWith(FENCE)) {
                inJava = line.equals(FENCE + "java");
            } else if (inJava) {
                take(line);
            }
        }
        Check.due("README: examples with an answer, at least 40", calls.size() >= 40 ? 1 : 0, 1);
    }

    private void take(String line) {
        Matcher m = ANSWERED.matcher(line);
        if (m.matches()) {
            code.append("got[").append(calls.size()).append("] = ").append(m.group(1)).append(";\n");
            calls.add(m.group(1));
            due.add(value(m.group(3)));
        } else {
            Check.due("README: an answer stands behind " + line, line.startsWith("fund.") ? 0 : 1, 1);
            code.append(line).append('\n');
        }
        shown.append(line).append('\n');
    }

    private static long value(String told) {
        return switch (told) {
            case "NONE" -> MatchFund.NONE;
            case "BAD" -> MatchFund.BAD;
            case "STATE" -> MatchFund.STATE;
            case "FULL" -> MatchFund.FULL;
            default -> Long.parseLong(told);
        };
    }

    private void showsTheFace() {
        for (Method m : MatchFund.class.getDeclaredMethods()) {
            if (Modifier.isPublic(m.getModifiers())) {
                boolean there = shown.indexOf("fund." + m.getName() + "(") >= 0;
                Check.due("README: an example of " + m.getName(), there ? 1 : 0, 1);
            }
        }
    }

    private long[] answers() throws Exception {
        Path dir = Files.createTempDirectory("readme");
        Path source = dir.resolve("ReadmeRun.java");
        Path made = dir.resolve("ReadmeRun.class");
        try {
            Files.writeString(source, "public final class ReadmeRun {\n    public static long[] run() {\n"
                + "long[] got = new long[" + calls.size() + "];\n" + code + "return got;\n    }\n}\n");
            JavaCompiler compiler = ToolProvider.getSystemJavaCompiler();
            int ended = compiler.run(null, null, null, "-d", dir.toString(), "-cp",
                System.getProperty("java.class.path"), source.toString());
            Check.due("README: the examples compile", ended, 0);
            return ended == 0 ? run(dir) : new long[calls.size()];
        } finally {
            Files.deleteIfExists(made);
            Files.deleteIfExists(source);
            Files.deleteIfExists(dir);
        }
    }

    private static long[] run(Path dir) throws IOException, ReflectiveOperationException {
        try (URLClassLoader loader = new URLClassLoader(new URL[] {dir.toUri().toURL()})) {
            return (long[]) loader.loadClass("ReadmeRun").getMethod("run").invoke(null);
        }
    }
}
