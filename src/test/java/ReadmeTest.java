import java.io.IOException;
import java.lang.reflect.Method;
import java.lang.reflect.Modifier;
import java.net.URL;
import java.net.URLClassLoader;
import java.nio.file.Files;
import java.nio.file.Path;
import java.util.ArrayList;
import java.util.List;
import java.util.regex.Matcher;
import java.util.regex.Pattern;
import javax.tools.JavaCompiler;
import javax.tools.ToolProvider;

/**
 * What the examples of README.md say is what the class answers: its java blocks, one after the other, are
 * compiled as one method and run; the number behind // is due as the answer of the call ahead of it.
 */
public final class ReadmeTest {
    private static final Path README = Path.of("README.md");
    private static final Path BUILD = Path.of("build", "readme");
    private static final Pattern EXAMPLE = Pattern.compile("(x\\.\\w+\\(.*\\));\\s*// (-?\\d+)(?:[:,.].*)?");

    private final List<String> calls = new ArrayList<>();
    private final List<Long> dues = new ArrayList<>();
    private final StringBuilder code = new StringBuilder();

    public static void main(String[] args) throws Exception {
        ReadmeTest test = new ReadmeTest();
        test.read();
        Check.holds("README.md has examples", !test.calls.isEmpty());
        test.allCallsAreShown();
        test.allThatIsAskedForIsThere();
        test.run();
        Check.end();
    }

    private void read() throws IOException {
        boolean java = false;
        int number = 0;
        for (String line : Files.readAllLines(README)) {
            number++;
            if (line.startsWith("```")) java = line.equals("```java");
            else if (java) readLine(line.strip(), "README.md " + number + ": ");
        }
    }

    private void readLine(String line, String at) {
        Matcher m = EXAMPLE.matcher(line);
        if (m.matches()) {
            calls.add(at + m.group(1));
            dues.add(Long.parseLong(m.group(2)));
            code.append("got.add((long) ").append(m.group(1)).append(");\n");
            return;
        }
        Check.holds(at + "tells its answer: " + line, !line.startsWith("x."));
        code.append(line).append('\n');
    }

    private void allCallsAreShown() {
        for (Method m : WarmChairs.class.getDeclaredMethods()) {
            if (!Modifier.isPublic(m.getModifiers())) continue;
            String call = "x." + m.getName() + "(";
            Check.holds("README.md shows " + m.getName(), code.indexOf(call) >= 0);
        }
    }

    /** A new object, a refused call, a text that is fed, read and made the law, how tests are run. */
    private void allThatIsAskedForIsThere() throws IOException {
        Check.holds("a new object", code.indexOf("WarmChairs x = new WarmChairs();") >= 0);
        for (long refusal : new long[] {-1, -2, -3, -4, -5, -7, -11, -12, -13, -14, -100000, WarmChairs.NO}) {
            Check.holds("a call that answers " + refusal, dues.contains(refusal));
        }
        int fed = code.indexOf("x.feed("), read = code.indexOf("x.text("), forced = code.indexOf("x.force(");
        Check.holds("a text is fed, read, made the law", fed >= 0 && fed < read && read < forced);
        Check.holds("how the tests are run", Files.readString(README).contains("\n.ci/run\n"));
    }

    private void run() throws Exception {
        Files.createDirectories(BUILD);
        Path source = BUILD.resolve("ReadmeRun.java");
        Files.writeString(source, "public final class ReadmeRun {\n"
            + "public static java.util.List<Long> answers() {\n"
            + "java.util.List<Long> got = new java.util.ArrayList<>();\n" + code + "return got;\n}\n}\n");
        JavaCompiler javac = ToolProvider.getSystemJavaCompiler();
        Check.holds("there is a compiler", javac != null);
        if (javac == null) return;
        int failed = javac.run(null, null, null, "-cp", System.getProperty("java.class.path"),
            "-d", BUILD.toString(), source.toString());
        Check.due("README.md's examples compile", failed, 0);
        if (failed != 0) return;
        try (URLClassLoader loader = new URLClassLoader(new URL[] {BUILD.toUri().toURL()})) {
            List<?> got = (List<?>) loader.loadClass("ReadmeRun").getMethod("answers").invoke(null);
            Check.due("README.md's answers", got.size(), calls.size());
            for (int i = 0; i < got.size() && i < calls.size(); i++) Check.due(calls.get(i), (Long) got.get(i), dues.get(i));
        }
    }
}
