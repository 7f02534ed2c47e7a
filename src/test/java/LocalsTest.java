/** Promises 8 and 9: set and local. */
final class LocalsTest {
    private static final int[] NONE_SUCH = {-1, 16, 17, -16, 64, 256, Integer.MIN_VALUE, Integer.MAX_VALUE};

    private LocalsTest() {
    }

    public static void main(String[] args) {
        RowCode x = new RowCode();
        for (int i = 0; i < 16; i++) {
            Due.same("the first set(" + i + ")", x.set(i, 1000 + i), 0);
        }
        for (int i = 0; i < 16; i++) {
            Due.same("local(" + i + ")", x.local(i), 1000 + i);
            Due.same("the second set(" + i + ")", x.set(i, -i), 1000 + i);
            Due.same("local(" + i + ")", x.local(i), -i);
        }
        for (int i : NONE_SUCH) {
            Due.same("set(" + i + ")", x.set(i, 77), 0);
            Due.same("set(" + i + ") again", x.set(i, 78), 0);
            Due.yes("local(" + i + ") throws", Due.localThrows(x, i));
        }
        for (int i = 0; i < 16; i++) {
            Due.same("local(" + i + ") is as it was", x.local(i), -i);
            Due.no("local(" + i + ") throws", Due.localThrows(x, i));
            Due.same("no word is changed", x.word(i), 0);
        }
        Due.same("set of the least value", x.set(0, Integer.MIN_VALUE), 0);
        Due.same("set of the greatest value", x.set(0, Integer.MAX_VALUE), Integer.MIN_VALUE);

        // A run sees what was set, and what it sets is seen.
        Due.addAll(x, 1, 15, 5, 0, 2, 0, 17, 0);
        x.set(15, 12);
        Due.same("run(0)", x.run(0), 4);
        Due.same("local(0) behind a run", x.local(0), -12);
        Due.same("set(0, 1) behind a run", x.set(0, 1), -12);
        Due.finish();
    }
}
