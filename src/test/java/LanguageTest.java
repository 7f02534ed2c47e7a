import java.io.IOException;
import java.nio.file.Files;
import java.nio.file.Paths;
import java.util.List;
import java.util.regex.Pattern;

/** Those rules of LANGUAGE.md that can be seen in the text of RowCode.java. */
final class LanguageTest {
    private static final String[] NEVER = {"->", "::", "\\btry\\b", "\\bcatch\\b", "\\bfinally\\b", "\\bassert\\b",
        "\\bsynchronized\\b", "Exact\\(", "\\bstatic \\{", "^package ", "\\bSystem\\.(?!arraycopy)", "\\bRandom\\b",
        "\\bprotected\\b", "\\bdouble\\b", "\\bfloat\\b", "[^\\x00-\\x7f]", "\\bwhile\\b", "\\bdo\\b \\{"};

    private LanguageTest() {
    }

    public static void main(String[] args) throws IOException {
        List<String> lines = Files.readAllLines(Paths.get(args[0]));
        int classes = 0;
        int methodStart = -1;
        String methodIndent = "";
        for (int i = 0; i < lines.size(); i++) {
            String line = lines.get(i);
            if (line.trim().matches("(/\\*|\\*|//).*")) {
                continue;
            }
            for (String never : NEVER) {
                Due.no("line " + (i + 1) + " has " + never, Pattern.compile(never).matcher(line).find());
            }
            if (line.startsWith("import ")) {
                Due.yes("line " + (i + 1) + " imports what may be",
                    line.matches("import java\\.util\\.(Arrays|NoSuchElementException);"));
            }
            if (line.contains(" class ")) {
                classes++;
            } else if (methodStart < 0 && line.matches("( {4}| {8})[A-Za-z].*\\) (throws \\w+ )?\\{")) {
                methodStart = i;
                methodIndent = line.substring(0, line.length() - line.stripLeading().length());
            } else if (methodStart >= 0 && line.equals(methodIndent + "}")) {
                Due.yes("the method at line " + (methodStart + 1) + " is short", i - methodStart <= 60);
                methodStart = -1;
            }
        }
        Due.yes("at most twelve classes: " + classes, classes > 0 && classes <= 12);
        Due.finish();
    }
}
