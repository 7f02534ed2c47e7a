import java.io.IOException;
import java.lang.reflect.Method;
import java.nio.file.Files;
import java.nio.file.Path;
import java.nio.file.Paths;
import java.util.HashMap;
import java.util.Map;

/** Holds the tests against DOC.md: each has words that stand there, and no word of Terms and promises has no test. */
final class EverySentenceTest {
    private static final Class<?>[] TESTS = {WhatItIsTest.class, TermsTest.class, RowInstructionsTest.class,
        CalculationsTest.class, ComparisonsTest.class, WordInstructionsTest.class, SteeringTest.class,
        RightCodeTest.class, NewObjectTest.class, AddTest.class, ClearTest.class, BuildTest.class, RunTest.class,
        ValueTest.class, FuelTest.class, SetTest.class, LocalTest.class, PutTest.class, WordTest.class};

    private EverySentenceTest() {
    }

    public static void main(String[] args) throws IOException {
        Path document = Paths.get(args.length > 1 ? args[1] : "../shared/DOC.md");
        if (!Files.exists(document)) {
            System.out.println("no document at " + document + ": its words are not looked at");
            return;
        }
        Map<String, String> texts = textsByHeading(Files.readString(document));
        Map<String, boolean[]> held = new HashMap<>();
        for (Class<?> tests : TESTS) {
            String heading = tests.getAnnotation(Heading.class).value();
            Due.yes("the document has the heading " + heading, texts.containsKey(heading));
            String text = texts.getOrDefault(heading, "");
            boolean[] marks = held.computeIfAbsent(heading, h -> new boolean[text.length()]);
            Due.yes(tests + " has tests", !Sentences.of(tests).isEmpty());
            for (Method test : Sentences.of(tests)) {
                mark(text, test, marks);
            }
        }
        for (String heading : texts.keySet()) {
            if (heading.equals("Terms") || heading.startsWith("Promise ")) {
                looksForGaps(heading, texts.get(heading), held.get(heading));
            }
        }
        Due.finish();
    }

    /** The text under each heading on one line, without the lines that fence it and the method's own line. */
    private static Map<String, String> textsByHeading(String document) {
        Map<String, String> texts = new HashMap<>();
        for (String part : document.split("(?m)^## ")) {
            int end = part.indexOf('\n');
            if (end >= 0) {
                String text = part.substring(end).replaceAll("(?m)^```.*$", " ").replaceAll("(?m)^`[^`]*`:", " ");
                texts.put(part.substring(0, end).trim(), text.replaceAll("\\s+", " ").trim());
            }
        }
        return texts;
    }

    private static void mark(String text, Method test, boolean[] marks) {
        String words = test.getAnnotation(Holds.class).value();
        int from = text.indexOf(words);
        Due.yes("\"" + words + "\" of " + test.getName() + " stands in the document", from >= 0);
        while (from >= 0) {
            for (int i = from; i < from + words.length(); i++) {
                marks[i] = true;
            }
            from = text.indexOf(words, from + 1);
        }
    }

    private static void looksForGaps(String heading, String text, boolean[] marks) {
        StringBuilder gaps = new StringBuilder();
        for (int i = 0; i < text.length(); i++) {
            boolean counts = Character.isLetterOrDigit(text.charAt(i));
            if (counts && (marks == null || !marks[i])) {
                gaps.append(text.charAt(i));
            } else if (gaps.length() > 0 && gaps.charAt(gaps.length() - 1) != ' ') {
                gaps.append(' ');
            }
        }
        Due.yes("each word under " + heading + " has a test, but not: " + gaps, gaps.length() == 0);
    }
}
