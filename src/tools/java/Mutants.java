import java.io.ByteArrayOutputStream;
import java.io.IOException;
import java.io.PrintStream;
import java.nio.file.Files;
import java.nio.file.Path;
import java.util.ArrayList;
import java.util.List;
import java.util.concurrent.ExecutorService;
import java.util.concurrent.Executors;
import java.util.concurrent.Future;
import java.util.concurrent.TimeUnit;
import java.util.regex.Matcher;
import java.util.regex.Pattern;
import javax.tools.JavaCompiler;
import javax.tools.ToolProvider;

/**
 * Breaks ActRows in one place at a time and tells which breaks all tests let pass. Arguments: the
 * program, the folder with the compiled tests, the tests' classes. Run by .ci/mutants, not by .ci/run.
 */
public final class Mutants {
    private record Change(Pattern found, String... becomes) {
    }

    private record Mutant(int line, String was, String is, String source) {
    }

    private static final Change[] CHANGES = {
        new Change(Pattern.compile(" <= "), " < ", " == "),
        new Change(Pattern.compile(" >= "), " > ", " == "),
        new Change(Pattern.compile(" < (?!<)"), " <= "),
        new Change(Pattern.compile(" > (?!>)"), " >= "),
        new Change(Pattern.compile(" == "), " != "),
        new Change(Pattern.compile(" != "), " == "),
        new Change(Pattern.compile(" && "), " || "),
        new Change(Pattern.compile(" \\|\\| "), " && "),
        new Change(Pattern.compile(" \\+ "), " - "),
        new Change(Pattern.compile(" - "), " + "),
        new Change(Pattern.compile(" \\+= "), " -= ", " = "),
        new Change(Pattern.compile(" \\|= "), " = ", " &= "),
        new Change(Pattern.compile("(?<=[( ])!(?=\\w)"), ""),
        new Change(Pattern.compile("\\bUNKNOWN(?=;)"), "OUTSIDE"),
        new Change(Pattern.compile("\\bOUTSIDE(?=;)"), "UNKNOWN", "STATE"),
        new Change(Pattern.compile("\\bSTATE(?=;)"), "OUTSIDE"),
        new Change(Pattern.compile("\\bFULL(?=;)"), "OUTSIDE"),
        new Change(Pattern.compile("\\bNONE(?=[; ])"), "UNKNOWN"),
        new Change(Pattern.compile("\\bLOST(?=;)"), "UNKNOWN"),
        new Change(Pattern.compile("\\breturn (NULL|CAST|SIZE)\\b"), "return INDEX"),
        new Change(Pattern.compile("faulted\\((NULL|CAST|SIZE)\\)"), "faulted(INDEX)"),
        new Change(Pattern.compile("faulted\\(INDEX\\)"), "faulted(SIZE)"),
        new Change(Pattern.compile("lastFault = \\w+;"), ""),
        new Change(Pattern.compile("\\breturn true\\b"), "return false"),
        new Change(Pattern.compile("\\breturn false\\b"), "return true"),
        new Change(Pattern.compile("(?<![\\w'.])(\\d+)(?![\\w'.])"), "$1 + 1", "$1 - 1"),
        new Change(Pattern.compile("(?m)^ +[a-z][\\w.\\[\\]]*\\([^;{}]*\\);$"), ";"),
        new Change(Pattern.compile("(?m)^ +[a-z][\\w.]*(\\[[^;=]*\\])? = [^;{}]*;$"), ";"),
        new Change(Pattern.compile("\\w\\+\\+;"), "hashCode();"),
        new Change(Pattern.compile("\\bcontinue;"), "break;"),
        new Change(Pattern.compile("\\((byte|short)\\) v"), "v"),
    };

    private static List<Mutant> mutantsOf(String source) {
        List<Mutant> mutants = new ArrayList<>();
        for (Change change : CHANGES) {
            Matcher m = change.found.matcher(source);
            while (m.find()) {
                int at = m.start() + m.group().length() - m.group().stripLeading().length();
                int line = (int) source.substring(0, at + 1).lines().count();
                if (isComment(source, m.start())) {
                    continue;
                }
                for (String becomes : change.becomes) {
                    String is = becomes.replace("$1", m.groupCount() > 0 && m.group(1) != null ? m.group(1) : "");
                    mutants.add(new Mutant(line, m.group().strip(), is.strip(),
                        source.substring(0, m.start()) + is + source.substring(m.end())));
                }
            }
        }
        return mutants;
    }

    private static boolean isComment(String source, int at) {
        String line = source.substring(source.lastIndexOf('\n', at) + 1, at + 1).strip();
        return line.startsWith("*") || line.startsWith("/*") || line.startsWith("//") || line.contains("import ");
    }

    /** Whether all tests let the mutant pass; null if it is no program. */
    private static Boolean passes(Mutant mutant, String tests, List<String> names) throws Exception {
        Path folder = Files.createTempDirectory("mutant");
        try {
            Path file = folder.resolve("ActRows.java");
            Files.writeString(file, mutant.source);
            JavaCompiler compiler = ToolProvider.getSystemJavaCompiler();
            ByteArrayOutputStream told = new ByteArrayOutputStream();
            if (compiler.run(null, told, told, "-d", folder.toString(), file.toString()) != 0) {
                return null;
            }
            String path = folder + System.getProperty("path.separator") + tests;
            for (String name : names) {
                if (!passes(path, name)) {
                    return false;
                }
            }
            return true;
        } finally {
            remove(folder);
        }
    }

    /** A test that does not end in time is one that fails. */
    private static boolean passes(String path, String test) throws Exception {
        Process run = new ProcessBuilder("java", "-XX:TieredStopAtLevel=1", "-cp", path, test)
            .redirectErrorStream(true).redirectOutput(ProcessBuilder.Redirect.DISCARD).start();
        if (!run.waitFor(60, TimeUnit.SECONDS)) {
            run.destroyForcibly();
            return false;
        }
        return run.exitValue() == 0;
    }

    private static void remove(Path folder) throws IOException {
        try (var files = Files.list(folder)) {
            for (Path file : files.toList()) {
                Files.delete(file);
            }
        }
        Files.delete(folder);
    }

    public static void main(String[] args) throws Exception {
        List<Mutant> mutants = mutantsOf(Files.readString(Path.of(args[0])));
        List<String> names = List.of(args).subList(2, args.length);
        ExecutorService pool = Executors.newFixedThreadPool(Runtime.getRuntime().availableProcessors());
        List<Future<Boolean>> answers = new ArrayList<>();
        for (Mutant mutant : mutants) {
            answers.add(pool.submit(() -> passes(mutant, args[1], names)));
        }
        PrintStream out = System.out;
        int made = 0;
        int passed = 0;
        for (int k = 0; k < mutants.size(); k++) {
            Boolean answer = answers.get(k).get();
            made += answer == null ? 0 : 1;
            if (answer != null && answer) {
                passed++;
                Mutant mutant = mutants.get(k);
                out.println("line " + mutant.line + ": " + mutant.was + "  ->  " + mutant.is);
            }
        }
        pool.shutdown();
        out.println(made + " mutants, " + passed + " of them pass " + names);
    }
}
