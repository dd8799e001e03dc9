import java.io.IOException;
import java.nio.file.Files;
import java.nio.file.Path;
import java.util.ArrayList;
import java.util.LinkedHashMap;
import java.util.List;
import java.util.Map;
import java.util.Set;
import java.util.regex.Matcher;
import java.util.regex.Pattern;

/**
 * Tests told sentence by sentence: each quotes the words of the document that it looks at, so that it
 * can be asked whether a sentence of the document has been left out.
 */
final class Sentences {
    static final String USE = "What it is";
    static final String TERMS = "Terms";

    /** A call on an object. */
    interface Call {
        long on(ActRows x);
    }

    /** A call that is given a number. */
    interface CallWith {
        long on(ActRows x, int number);
    }

    /** The promises whose calls name FAULTS: program, day, sheet, put, cell, copy, as. */
    private static final Set<String> NAME_FAULTS = Set.of("2", "11", "22", "24", "25", "26", "29");

    private final Checks checks = new Checks();
    private final Map<String, List<String>> quotes = new LinkedHashMap<>();
    private final String untouched = Fixture.seen(Fixture.made());
    private String section = "";
    private String label = "";
    private int checked = 0;

    /** The test of a sentence, or of a part of one, of a section (the number, of a promise). */
    void of(String inSection, String quote, Runnable test) {
        quotes.computeIfAbsent(inSection, none -> new ArrayList<>()).add(quote);
        section = inSection;
        label = inSection + " \"" + quote + "\"";
        checked = 0;
        test.run();
        checks.due(label + " looks at something", checked > 0);
    }

    void due(String what, long got, long want) {
        checked++;
        checks.due(label + ": " + what, got, want);
    }

    /** Each number comes to the same answer. */
    void each(String what, long want, CallWith call, ActRows x, int... numbers) {
        for (int number : numbers) {
            due(what + " " + number, call.on(x, number), want);
        }
    }

    /** Each call on a made object is refused: fault() is touched only where FAULTS are named. */
    void refused(long answer, Call... calls) {
        for (int k = 0; k < calls.length; k++) {
            untouchedBy(calls[k], "refused call " + k, answer, NAME_FAULTS.contains(section) ? 0 : Fixture.PENDING);
        }
    }

    /** The call is refused for each of the numbers. */
    void refusedFor(long answer, CallWith call, int... numbers) {
        for (int number : numbers) {
            refused(answer, x -> call.on(x, number));
        }
    }

    /** Each call on a made object comes to a fault. */
    void faulted(int fault, Call... calls) {
        for (int k = 0; k < calls.length; k++) {
            untouchedBy(calls[k], "call " + k, section.equals("25") ? ActRows.LOST : -10 - fault, fault);
        }
    }

    /** What a call answers on a made object, its fault, and that nothing else can be seen of it. */
    void untouchedBy(Call call, String what, long answer, int fault) {
        ActRows x = Fixture.made();
        due(what, call.on(x), answer);
        due(what + ", fault", x.fault(), fault);
        due(what + " changes nothing", Fixture.seen(x).equals(untouched) ? 1 : 0, 1);
    }

    void end() {
        checks.end();
    }

    // ---- whether the document has a sentence that no test quotes

    void compareWith(Path document) throws IOException {
        if (!Files.isReadable(document)) {
            System.out.println("there is no " + document + " to compare with");
            return;
        }
        Map<String, String> sections = sectionsOf(Files.readString(document));
        for (String quoted : quotes.keySet()) {
            checks.due("the document has a section " + quoted, sections.containsKey(quoted));
        }
        for (Map.Entry<String, String> told : sections.entrySet()) {
            compare(told.getKey(), told.getValue());
        }
    }

    private void compare(String name, String text) {
        boolean[] quoted = new boolean[text.length()];
        for (String quote : quotes.getOrDefault(name, List.of())) {
            int at = text.indexOf(quote);
            checks.due(name + " says once \"" + quote + "\"", at >= 0 && text.indexOf(quote, at + 1) < 0);
            for (int i = at; at >= 0 && i < at + quote.length(); i++) {
                quoted[i] = true;
            }
        }
        StringBuilder left = new StringBuilder();
        for (int i = 0; i < quoted.length; i++) {
            left.append(quoted[i] ? ' ' : text.charAt(i));
        }
        String open = left.toString().replaceAll("[^A-Za-z0-9]+", " ").strip();
        checks.due(name + " is tested whole, but: " + open, open.isEmpty());
    }

    /** The sections that tell what calls do, without what is no sentence, each in one line. */
    private static Map<String, String> sectionsOf(String document) {
        Map<String, String> sections = new LinkedHashMap<>();
        for (String part : document.split("(?m)^## ")) {
            int end = part.indexOf('\n');
            String head = end < 0 ? part : part.substring(0, end);
            String body = end < 0 ? "" : part.substring(end);
            Matcher promise = Pattern.compile("Promise (\\d+): .*").matcher(head);
            if (promise.matches()) {
                sections.put(promise.group(1), oneLine(body.replaceFirst("`[^`]*`:", "")));
            } else if (head.equals(TERMS)) {
                sections.put(TERMS, oneLine(body.replaceAll("(?m)^Ahead of the calls .*$|^```.*$|^==== \\d ", "")));
            } else if (head.equals(USE)) {
                // What stands ahead of it tells in a word what the terms tell in full.
                sections.put(USE, oneLine(body.substring(Math.max(0, body.indexOf("An object is used")))));
            }
        }
        return sections;
    }

    private static String oneLine(String text) {
        return text.replaceAll("\\s+", " ").strip();
    }
}
