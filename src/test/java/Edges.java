import java.io.IOException;
import java.nio.file.Files;
import java.nio.file.Path;
import java.util.ArrayList;
import java.util.List;
import java.util.Map;
import java.util.Set;
import java.util.TreeMap;
import java.util.TreeSet;
import java.util.function.Supplier;

/**
 * Runs tests of boundary cases. Each is known by the sentence of the document that it holds the class to, so that a
 * line of a promise that has no test of its own is told as well.
 */
final class Edges {
    /** One test. */
    interface Body {
        void check(Edges e);
    }

    /** The number of the document's sections ahead of the promises. */
    static final int TERMS = 0;

    private static final Path DOCUMENT = Path.of("..", "shared", "DOC.md");

    private final Map<Integer, List<String>> document = read();
    private final Map<Integer, Set<String>> quoted = new TreeMap<>();
    private final Checks checks = new Checks();
    private int promise = TERMS;
    private String sentence = "";

    /** Runs the test of a sentence: a whole line of a promise, or a part of the terms. */
    void edge(int promiseOfIt, String sentenceOfIt, Body body) {
        promise = promiseOfIt;
        sentence = sentenceOfIt;
        quoted.computeIfAbsent(promise, number -> new TreeSet<>()).add(sentence);
        isText("the document's words", inDocument() ? sentence : "other ones", sentence);
        try {
            body.check(this);
        } catch (RuntimeException e) {
            isText("the test", e.toString(), "nothing thrown");
        }
    }

    void is(String what, long got, long due) {
        isText(what, Long.toString(got), Long.toString(due));
    }

    void isText(String what, String got, String due) {
        checks.isText(promise, "[" + sentence + "] " + what, got, due);
    }

    void shape(String what, SplaySequence x, String due) {
        isText("the tree behind " + what, Checks.shape(x), due);
    }

    /** Steps and rotations of the latest call, steps and splays of all calls. */
    void counts(String what, SplaySequence x, String due) {
        isText("the counts behind " + what, counted(x), due);
    }

    static String counted(SplaySequence x) {
        return x.lastSteps() + "/" + x.lastRotations() + " " + x.steps() + " " + x.splays();
    }

    void refusesPlace(String what, Supplier<SplaySequence> made, Checks.Call call) {
        refuses("IndexOutOfBoundsException", what, made, call);
    }

    void refusesArgument(String what, Supplier<SplaySequence> made, Checks.Call call) {
        refuses("IllegalArgumentException", what, made, call);
    }

    void refusesState(String what, Supplier<SplaySequence> made, Checks.Call call) {
        refuses("IllegalStateException", what, made, call);
    }

    /** Checks that a call throws, and that its object then answers all as one does that was made alike. */
    void refuses(String due, String what, Supplier<SplaySequence> made, Checks.Call call) {
        SplaySequence x = made.get();
        isText(what, Checks.outcome(x, call), "throws." + due);
        isText("all answers behind " + what, portrait(x), portrait(made.get()));
    }

    /** All that an object can be asked for, at first without splaying; it is used up then. */
    static String portrait(SplaySequence x) {
        StringBuilder text = new StringBuilder(Checks.shape(x)).append(' ').append(Checks.plainRow(x));
        text.append(" clipped ").append(x.clipped()).append(" height ").append(x.height());
        text.append(" potential ").append(x.potential()).append(" counts ").append(counted(x));
        for (int finger = 0; finger < 4; finger++) {
            text.append(" finger ").append(x.whereIs(finger)).append(" at ").append(x.follow(finger));
        }
        text.append(" pasted ").append(x.paste(x.size())).append(": ").append(Checks.shape(x));
        for (int finger = 0; finger < 4; finger++) {
            text.append(" finger ").append(x.whereIs(finger)).append(" at ").append(x.follow(finger));
        }
        return text.append(' ').append(Checks.treeRow(x)).append(" counts ").append(counted(x)).toString();
    }

    /** Tells each line of the promises that no test was known by, and ends as Checks does. */
    void end(String name) {
        for (int number : document.keySet()) {
            for (String line : document.get(number)) {
                boolean tested = quoted.getOrDefault(number, Set.of()).contains(bare(line));
                if (number != TERMS) {
                    checks.isText(number, "[" + bare(line) + "]", tested ? "a test" : "no test", "a test");
                }
            }
        }
        checks.end(name);
    }

    private boolean inDocument() {
        for (String line : document.getOrDefault(promise, List.of())) {
            if (promise == TERMS ? line.contains(sentence) : bare(line).equals(sentence)) {
                return true;
            }
        }
        return false;
    }

    private static String bare(String line) {
        return line.startsWith("- ") ? line.substring(2) : line;
    }

    /** The lines of the document's sections by number, without the marks and without what tells a call's face. */
    private static Map<Integer, List<String>> read() {
        Map<Integer, List<String>> sections = new TreeMap<>();
        List<String> lines = new ArrayList<>();
        for (String marked : linesOfDocument()) {
            String line = marked.replace("`", "");
            if (line.startsWith("## ")) {
                lines = new ArrayList<>();
            }
            if (line.equals("## What it is") || line.equals("## Terms")) {
                lines = sections.computeIfAbsent(TERMS, number -> new ArrayList<>());
            } else if (line.startsWith("## Promise ")) {
                sections.put(Integer.parseInt(line.substring(11, line.indexOf(':'))), lines);
            } else if (!line.isEmpty()) {
                boolean face = line.startsWith("int ") || line.startsWith("SplaySequence(): ");
                lines.add(face ? line.substring(line.indexOf(": ") + 2) : line);
            }
        }
        return sections;
    }

    private static List<String> linesOfDocument() {
        try {
            return Files.readAllLines(DOCUMENT);
        } catch (IOException e) {
            throw new IllegalStateException("no document at " + DOCUMENT, e);
        }
    }
}
