import java.io.IOException;
import java.lang.reflect.Method;
import java.lang.reflect.Modifier;
import java.net.URL;
import java.net.URLClassLoader;
import java.nio.file.Files;
import java.nio.file.Path;
import java.util.List;
import java.util.regex.Matcher;
import java.util.regex.Pattern;
import java.util.stream.Stream;
import javax.tools.JavaCompiler;
import javax.tools.ToolProvider;

/** README.md: that its program compiles and is answered as it says, that it names all there is. */
public final class ReadmeTest {
    private static final Checks CHECKS = new Checks();
    private static final Pattern PROGRAM = Pattern.compile("(?s)```java\n(.*?)```");
    /** A call, and behind it the answer: a number or a constant's name, to the end or to a colon. */
    private static final Pattern CALL = Pattern.compile("(rows\\.\\w+\\(.*\\)); +// (-?\\w+)(:.*)?");
    private static final int FEWEST_CALLS = 30;

    public static void main(String[] args) throws Exception {
        String page = Files.readString(Path.of("README.md"));
        namesCalls(page);
        namesTests(page);
        runProgram(page);
        CHECKS.end();
    }

    /** Every call of the face stands there with as many arguments as it takes. */
    private static void namesCalls(String page) {
        for (Method m : ActRows.class.getDeclaredMethods()) {
            if (Modifier.isPublic(m.getModifiers())) {
                String argument = "\\w+";
                String all = m.getParameterCount() == 0 ? ""
                        : argument + (", " + argument).repeat(m.getParameterCount() - 1);
                CHECKS.due("README tells " + m, Pattern.compile("`" + m.getName() + "\\(" + all + "\\)`").matcher(page).find());
            }
        }
    }

    private static void namesTests(String page) throws IOException {
        try (Stream<Path> files = Files.list(Path.of("src/test/java"))) {
            List<String> names = files.map(file -> file.getFileName().toString()).filter(name -> name.endsWith("Test.java")).toList();
            for (String name : names) {
                String test = name.replace(".java", "");
                CHECKS.due("README tells " + test, page.contains("\n| " + test + " | "));
            }
        }
        CHECKS.due("README tells how the tests are run", page.contains("\n    .ci/run\n"));
    }

    private static void runProgram(String page) throws Exception {
        Matcher m = PROGRAM.matcher(page);
        if (!m.find()) {
            CHECKS.due("README has a program", false);
            return;
        }
        Path folder = Files.createTempDirectory("readme");
        Path file = folder.resolve("ReadmeProgram.java");
        Files.writeString(file, asClass(m.group(1)));
        JavaCompiler compiler = ToolProvider.getSystemJavaCompiler();
        String folders = System.getProperty("java.class.path");
        int code = compiler.run(null, null, null, "-cp", folders, "-d", folder.toString(), file.toString());
        CHECKS.due("README's program compiles", code == 0);
        if (code == 0) {
            run(folder);
        }
        for (String name : List.of("ReadmeProgram.class", "ReadmeProgram.java", "")) {
            Files.deleteIfExists(folder.resolve(name));
        }
    }

    private static void run(Path folder) throws Exception {
        try (URLClassLoader loader = new URLClassLoader(new URL[] {folder.toUri().toURL()})) {
            Class<?> program = loader.loadClass("ReadmeProgram");
            long[][] answers = (long[][]) program.getMethod("answers").invoke(null);
            String[] calls = (String[]) program.getMethod("calls").invoke(null);
            CHECKS.due("README has calls with answers", calls.length >= FEWEST_CALLS);
            for (int k = 0; k < calls.length; k++) {
                CHECKS.due("README: " + calls[k], answers[k][0], answers[k][1]);
            }
        }
    }

    /** The program as it stands, but for its calls with answers, of which both are kept. */
    private static String asClass(String program) {
        StringBuilder body = new StringBuilder();
        StringBuilder calls = new StringBuilder();
        for (String line : program.split("\n")) {
            Matcher m = CALL.matcher(line.strip());
            if (!m.matches()) {
                body.append(line).append('\n');
                continue;
            }
            String answer = m.group(2).matches("[A-Z]+") ? "ActRows." + m.group(2) : m.group(2);
            body.append("answers.add(new long[] {").append(m.group(1)).append(", ").append(answer).append("});\n");
            calls.append('"').append(m.group(1)).append("\",\n");
        }
        return "import java.util.*;\npublic final class ReadmeProgram {\n"
                + "public static String[] calls() {\nreturn new String[] {\n" + calls + "};\n}\n"
                + "public static long[][] answers() {\nList<long[]> answers = new ArrayList<>();\n"
                + body + "return answers.toArray(new long[0][]);\n}\n}\n";
    }
}
