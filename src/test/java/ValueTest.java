/** Promise 6: the value of the latest end; 0 when the latest run had none. */
final class ValueTest {
    private ValueTest() {
    }

    private static void lastRun(RowCode x, int fuel, int answer, int value) {
        Due.same("run(" + fuel + ")", x.run(fuel), answer);
        Due.same("value() behind an answer of " + answer, x.value(), value);
    }

    public static void main(String[] args) {
        RowCode x = new RowCode();
        Due.same("value() ahead of any run", x.value(), 0);
        lastRun(x, 0, -1, 0);
        Due.addAll(x, 0, 7, 16, 0);
        Due.yes("build()", x.build());
        Due.same("value() ahead of a run", x.value(), 0);
        lastRun(x, 0, 0, 7);
        Due.same("value() once more", x.value(), 7);
        lastRun(x, -1, -1, 7);

        int[][] faults = {{17, 0}, {15, 0, 17, 0}, {0, 64, 3, 0, 16, 0}, {0, 5, 0, 0, 7, 3, 16, 0}};
        int[] answers = {4, 1, 2, 3};
        for (int i = 0; i < faults.length; i++) {
            x.clear();
            Due.addAll(x, 0, -9, 16, 0);
            lastRun(x, 0, 0, -9);
            x.clear();
            Due.same("value() behind clear", x.value(), -9);
            Due.addAll(x, faults[i]);
            Due.same("value() behind add", x.value(), -9);
            lastRun(x, 0, answers[i], 0);
            lastRun(x, 20001, -1, 0);
        }

        // Of several values the top is the one, whichever way it was made.
        lastRun(Due.code(0, 1, 0, 2, 0, 3, 16, 0), 0, 0, 3);
        lastRun(Due.code(0, 3, 3, 0, 6, 0, 16, 0), 0, 0, -1);
        lastRun(Due.code(0, Integer.MIN_VALUE, 16, 0), 0, 0, Integer.MIN_VALUE);
        Due.finish();
    }
}
