import java.io.IOException;
import java.nio.file.Files;
import java.nio.file.Paths;
import java.util.HashSet;
import java.util.List;
import java.util.Set;

/** The examples of README.md answer what the page says of them, and stand there just as they stand here. */
final class ReadmeTest {
    private ReadmeTest() {
    }

    public static void main(String[] args) throws IOException {
        twiceALocal();
        countsDown();
        thePageHasTheseExamples();
        Due.finish();
    }

    private static void twiceALocal() {
        RowCode x = new RowCode();
        x.add(0, 2);                    // 2 comes on top
        x.add(1, 0);                    // local 0 comes on top
        x.add(7, 2);                    // 2 * local 0
        x.add(16, 0);                   // the end: the top is the value
        x.set(0, 21);
        boolean right = x.build();      // true: the code is right
        int answer = x.run(0);          // 0: it came to an end
        int value = x.value();          // 42
        Due.yes("build() of the first example", right);
        Due.same("run(0) of the first example", answer, 0);
        Due.same("value() of the first example", value, 42);
    }

    private static void countsDown() {
        RowCode y = new RowCode();
        y.add(13, 7);                   // label 7 is here
        y.add(15, 0);                   // one fuel is spent
        y.add(1, 0);
        y.add(0, 1);
        y.add(7, 1);                    // local 0 - 1
        y.add(2, 0);                    // .. goes to local 0
        y.add(1, 0);
        y.add(12, 7);                   // on at label 7 if local 0 is not 0
        y.add(17, 0);                   // stop
        y.set(0, 5);
        int stopped = y.run(100);       // 4: it came to a stop
        int left = y.fuel();            // 95
        y.set(0, 5);
        int tooFar = y.run(3);          // 1: there was no fuel for the fourth round
        int there = y.local(0);         // 2: what a run did stays
        Due.same("run(100) of the second example", stopped, 4);
        Due.same("fuel() of the second example", left, 95);
        Due.same("run(3) of the second example", tooFar, 1);
        Due.same("local(0) of the second example", there, 2);
    }

    private static void thePageHasTheseExamples() throws IOException {
        Set<String> here = new HashSet<>();
        for (String line : Files.readAllLines(Paths.get("src/test/java/ReadmeTest.java"))) {
            here.add(line.trim());
        }
        String page = Files.readString(Paths.get("README.md"));
        int use = page.indexOf("## Use");
        int end = page.indexOf("## Inside");
        Due.yes("the page says how to use the class", use >= 0 && use < end);
        int lines = 0;
        boolean isExample = false;
        for (String line : use < 0 || end < use ? List.<String>of() : page.substring(use, end).lines().toList()) {
            if (line.startsWith("```")) {
                isExample = line.equals("```java");
            } else if (isExample) {
                lines++;
                Due.yes("a line of the page stands in ReadmeTest: " + line, here.contains(line.trim()));
            }
        }
        Due.yes("the page has the examples", lines > 20);
    }
}
