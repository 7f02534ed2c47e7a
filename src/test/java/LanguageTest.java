import java.io.IOException;
import java.lang.reflect.Field;
import java.lang.reflect.Method;
import java.lang.reflect.Modifier;
import java.nio.file.Files;
import java.nio.file.Paths;
import java.util.List;
import java.util.regex.Matcher;
import java.util.regex.Pattern;

/** Those rules of LANGUAGE.md that can be seen in the text of RowCode.java and in its compiled classes. */
final class LanguageTest {
    private static final String EXCEPTIONS = "(IllegalStateException|IllegalArgumentException|IndexOutOfBoundsException"
        + "|ArithmeticException|UnsupportedOperationException|NoSuchElementException|RuntimeException)";
    // Each row: the rule, and what no line may have by it.
    private static final String[][] NEVER = {
        {"no package", "^package "},
        {"1: nothing protected", "\\bprotected\\b"},
        {"2: no lambda", "^(?!\\s*(case|default)\\b).*->"},
        {"2: no method reference", "::"},
        {"4: no function that ends in Exact", "Exact\\("},
        {"4: of System, arraycopy alone", "\\bSystem\\.(?!arraycopy)"},
        {"5: no static initialiser", "\\bstatic \\{"},
        {"6: no finally", "\\bfinally\\b"},
        {"6: no assert", "\\bassert\\b"},
        {"6: no synchronized", "\\bsynchronized\\b"},
        {"6: a throw of these classes alone", "\\bthrow (?!new " + EXCEPTIONS + "\\()"},
        {"6: the exception is left alone", "getMessage|printStackTrace"},
        {"13: no clock, no randomness, no thread", "\\b(Random|Thread|nanoTime|currentTimeMillis)\\b"},
        {"the machine's exceptions are not caught", "catch \\((?!" + EXCEPTIONS + "\\b)"},
    };

    private LanguageTest() {
    }

    public static void main(String[] args) throws IOException {
        List<String> lines = Files.readAllLines(Paths.get(args[0]));
        for (int i = 0; i < lines.size(); i++) {
            if (!lines.get(i).trim().matches("(/\\*|\\*|//).*")) {
                looksAtLine(i + 1, lines.get(i));
            }
        }
        methodsAreShort(lines);
        int classes = 1;
        looksAtClass(RowCode.class);
        for (Class<?> inside : RowCode.class.getDeclaredClasses()) {
            classes++;
            looksAtClass(inside);
        }
        Due.yes("rule 11: some twelve classes: " + classes, classes <= 14);
        Due.finish();
    }

    private static void looksAtLine(int number, String line) {
        for (String[] never : NEVER) {
            Due.no("line " + number + " breaks rule " + never[0], Pattern.compile(never[1]).matcher(line).find());
        }
        if (line.startsWith("import ")) {
            Due.yes("line " + number + " imports what rule 4 lists",
                line.matches("import java\\.util\\.(Arrays|NoSuchElementException|ArrayList|List|Iterator);"));
        }
    }

    private static void methodsAreShort(List<String> lines) {
        Pattern head = Pattern.compile("^( {4,12})[A-Za-z].*\\) (throws \\w+ )?\\{$");
        for (int i = 0; i < lines.size(); i++) {
            Matcher start = head.matcher(lines.get(i));
            if (start.matches() && !lines.get(i).trim().matches("(if|for|while|switch|try|else)\\b.*")) {
                int end = i;
                while (end < lines.size() && !lines.get(end).equals(start.group(1) + "}")) {
                    end++;
                }
                Due.yes("rule 11: the method at line " + (i + 1) + " is short", end - i <= 70);
            }
        }
    }

    private static void looksAtClass(Class<?> one) {
        int fields = 0;
        for (Field field : one.getDeclaredFields()) {
            boolean isStatic = Modifier.isStatic(field.getModifiers());
            fields += isStatic ? 0 : 1;
            Due.yes("rule 5: " + field + ", if static, is final",
                !isStatic || field.isSynthetic() || Modifier.isFinal(field.getModifiers()));
        }
        Due.yes("rule 11: some twenty fields of " + one, fields <= 22);
        for (Method method : one.getDeclaredMethods()) {
            Due.yes("rule 11: at most seven parameters of " + method, method.getParameterCount() <= 7);
        }
    }
}
