import java.io.IOException;
import java.io.UncheckedIOException;
import java.nio.file.Files;
import java.nio.file.Path;
import java.util.LinkedHashMap;
import java.util.LinkedHashSet;
import java.util.Map;
import java.util.Set;
import java.util.function.Supplier;

/**
 * Gives sentences of the document tests of their own, and tells those that need one and have none:
 * each sentence of the terms, each parameter of a method, and each exception.
 */
final class Edges {
    private static final Path DOCUMENT = Path.of("../shared/DOC.md");
    // The first says what the words of the others are about; the others are headings within a line.
    private static final Set<String> NAME_NO_CASE = Set.of(
            "Questions have words, levels that answers shift, and twins; plans hold questions of a kind for "
            + "a week, and go after others when levels shift; quizzes are drawn by kinds with seeds; spooled "
            + "sheets hold their questions until they are printed or cancelled.",
            "Questions.", "Index.", "Weeks and plans.", "Sheets.", "Answers.", "Exceptions.");
    private static final int[] FAR = {-1, Integer.MIN_VALUE, Integer.MAX_VALUE};

    interface Use {
        Object on(Quizspool x);
    }

    interface NumberedUse {
        Object on(Quizspool x, int number);
    }

    /** What the document says, by section; true if the sentence needs a test. */
    private static final Map<String, Map<String, Boolean>> SECTIONS = readDocument();
    private static final Set<String> TESTED = new LinkedHashSet<>();

    private Edges() {
    }

    // ---- The document's sentences

    private static Map<String, Map<String, Boolean>> readDocument() {
        Map<String, Map<String, Boolean>> sections = new LinkedHashMap<>();
        for (String section : documentText().split("(?m)^## ")) {
            String[] parts = section.split("\n", 2);
            String name = parts[0].split(":")[0];
            Map<String, Boolean> sentences = new LinkedHashMap<>();
            if (name.equals("What it is") || name.equals("Terms")) {
                for (String sentence : inOneLine(parts[1]).split("(?<=\\.) (?=[A-Z])")) {
                    sentences.put(sentence, name.equals("Terms") && !NAME_NO_CASE.contains(sentence));
                }
            } else if (name.startsWith("Promise ")) {
                for (String told : parts[1].split("\n\\s*\n|\n(?=- )")) {
                    String sentence = inOneLine(told).replaceFirst("^`.*`: ", "");
                    sentences.put(sentence, sentence.startsWith("- ") || sentence.startsWith("Throws "));
                }
            }
            sections.put(name, sentences);
        }
        return sections;
    }

    private static String documentText() {
        try {
            return Files.readString(DOCUMENT);
        } catch (IOException e) {
            throw new UncheckedIOException(e);
        }
    }

    private static String inOneLine(String text) {
        return text.trim().replaceAll("\\s+", " ");
    }

    static void test(String section, String sentence, Runnable test) {
        String name = section + ": " + sentence;
        Checks.due("the document says " + name, true,
                () -> SECTIONS.getOrDefault(section, Map.of()).containsKey(sentence));
        Checks.due("the first test of " + name, true, () -> TESTED.add(name));
        int before = Checks.made();
        test.run();
        Checks.due("a check of " + name, true, () -> Checks.made() > before);
    }

    static void finish(String name) {
        SECTIONS.forEach((section, sentences) -> sentences.forEach((sentence, isNeeded) -> {
            if (isNeeded) {
                String needed = section + ": " + sentence;
                Checks.due("a test for " + needed, true, () -> TESTED.contains(needed));
            }
        }));
        Checks.due("there are sentences to test", true, () -> TESTED.size() > 100);
        Checks.finish(name);
    }

    // ---- Refused calls

    /** The call throws, and the machine is as one like it on which the call was not made. */
    static void refused(String what, Class<? extends RuntimeException> want, Supplier<Quizspool> made,
            Use call) {
        Quizspool x = made.get();
        Checks.dueThrow(what, want, () -> call.on(x));
        Checks.due(what + ", and what stands behind it", Story.of(made.get()), () -> Story.of(x));
    }

    /** Refuses the numbers on both sides of 0 to count - 1. */
    static void noSuch(String what, Class<? extends RuntimeException> want, Supplier<Quizspool> made,
            int count, NumberedUse call) {
        refused(what + " of " + count, want, made, x -> call.on(x, count));
        for (int number : FAR) {
            refused(what + " of " + number, want, made, x -> call.on(x, number));
        }
    }

    static void noSuchQuestion(String what, NumberedUse call) {
        noSuch(what + " without questions", Checks.INDEX, Quizspool::new, 0, call);
        noSuch(what, Checks.INDEX, Machines::busy, 8, call);
        noSuch(what + " with all questions", Checks.INDEX, Machines::full, 40, call);
    }

    static void noSuchPlan(String what, NumberedUse call) {
        noSuch(what + " without plans", Checks.INDEX, Quizspool::new, 0, call);
        noSuch(what, Checks.INDEX, Machines::busy, 4, call);
        noSuch(what + " with all plans", Checks.INDEX, Machines::full, 12, call);
    }

    static void noSuchSheet(String what, NumberedUse call) {
        noSuch(what + " without sheets", Checks.INDEX, Quizspool::new, 0, call);
        noSuch(what, Checks.INDEX, Machines::busy, 4, call);
        noSuch(what + " with all sheets", Checks.INDEX, Machines::full, 30, call);
    }

    // ---- The first and the last number that there is

    /** The answers for the numbers 0 and last of one machine. */
    static void ends(String what, Supplier<Quizspool> made, Object first, int last, Object lastAnswer,
            NumberedUse call) {
        Checks.due(what + " of the number 0", first, () -> call.on(made.get(), 0));
        Checks.due(what + " of the number " + last, lastAnswer, () -> call.on(made.get(), last));
    }
}
