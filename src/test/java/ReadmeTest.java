import java.io.IOException;
import java.net.URL;
import java.net.URLClassLoader;
import java.nio.file.Files;
import java.nio.file.Path;
import java.util.ArrayList;
import java.util.List;
import java.util.regex.Matcher;
import java.util.regex.Pattern;
import javax.tools.ToolProvider;

/** README.md: its run of calls answers as it is printed, and it names each call of the document and each refusal. */
public final class ReadmeTest {
    private static final Path README = Path.of("README.md"), DOCUMENT = Path.of("../shared/DOC.md"), BUILD = Path.of("build/readme");
    private static final String MADE = "TrampOffice office = new TrampOffice();";
    private static final Pattern CALL = Pattern.compile("(office\\.\\w+\\([^;]*\\)); +// (-?\\d+)(?!\\d).*");
    private static final Pattern FACE = Pattern.compile("public (?:int|long) (\\w+)\\(([^)]*)\\);");
    private static final Due due = new Due("ReadmeTest");

    private static String block(String text) {
        Matcher m = Pattern.compile("(?s)```java\n(.*?)```").matcher(text);
        return m.find() ? m.group(1) : "";
    }

    /** The run as a class that answers with the answers of its calls, in their order; wants gets those that are printed. */
    private static String program(String block, List<String> calls, List<Long> wants) {
        StringBuilder made = new StringBuilder("public final class ReadmeRun {\n    public static long[] run() {\n");
        StringBuilder answers = new StringBuilder();
        for (String line : block.split("\n")) {
            Matcher call = CALL.matcher(line);
            if (call.matches()) {
                made.append("        long a" + calls.size() + " = " + call.group(1) + ";\n");
                answers.append(calls.isEmpty() ? "a" : ", a").append(calls.size());
                calls.add(call.group(1));
                wants.add(Long.parseLong(call.group(2)));
            } else {
                due.holds(line.isEmpty() || line.startsWith("//") || line.equals(MADE), "the line has a call and its answer: " + line);
                made.append("        " + line + "\n");
            }
        }
        return made + "        return new long[] {" + answers + "};\n    }\n}\n";
    }

    private static void run(String readme) throws IOException, ReflectiveOperationException {
        List<String> calls = new ArrayList<>();
        List<Long> wants = new ArrayList<>();
        Path source = BUILD.resolve("ReadmeRun.java");
        Files.createDirectories(BUILD);
        Files.writeString(source, program(block(readme), calls, wants));
        due.holds(calls.size() >= 30, "the run has calls: " + calls.size());
        String classes = System.getProperty("java.class.path");
        int code = ToolProvider.getSystemJavaCompiler().run(null, null, null, "-cp", classes, "-d", BUILD.toString(), source.toString());
        due.is(0, code, "javac of the run");
        if (code != 0) {
            return;
        }
        try (URLClassLoader loader = new URLClassLoader(new URL[] {BUILD.toUri().toURL()}, ReadmeTest.class.getClassLoader())) {
            long[] answers = (long[]) loader.loadClass("ReadmeRun").getMethod("run").invoke(null);
            for (int i = 0; i < answers.length; i++) {
                due.is(wants.get(i), answers[i], "README.md: " + calls.get(i));
            }
        }
    }

    /** As many calls as the document's face has, each with the names of its numbers. */
    private static void calls(String readme) throws IOException {
        Matcher face = FACE.matcher(block(Files.readString(DOCUMENT)));
        int calls = 0;
        while (face.find()) {
            calls++;
            String names = face.group(2).replaceAll("\\w+ (\\w+)", "$1");
            due.holds(readme.contains("\n| `" + face.group(1) + "(" + names + ")` | "), "README.md tells of " + face.group(1));
        }
        due.is(34, calls, "calls of the document's face");
    }

    private static void refusals(String readme) {
        String[] rows = {"| -1 | `NONE` | ", "| -2 | `BAD` | ", "| -3 | `STATE` | ", "| -4 | `FULL` | ", "| -4611686018427387904 | `NO` | ",
            "| -11 | | ", "| -12 | | ", "| -13 | | ", "| -14 | | ", "| -21 .. -27 | | ", "| -100 .. -260 | | "};
        for (String row : rows) {
            due.holds(readme.contains("\n" + row), "README.md tells of " + row);
        }
        due.holds(readme.contains("new TrampOffice()") && readme.contains("\n    .ci/run\n"), "how an object is made, how the tests are run");
    }

    public static void main(String[] args) throws IOException, ReflectiveOperationException {
        String readme = Files.readString(README);
        run(readme);
        calls(readme);
        refusals(readme);
        due.end();
    }
}
