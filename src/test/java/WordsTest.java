/** Promises 10 and 11: put and word. */
final class WordsTest {
    private static final int[] NONE_SUCH = {-1, 64, 65, -64, 256, Integer.MIN_VALUE, Integer.MAX_VALUE};

    private WordsTest() {
    }

    public static void main(String[] args) {
        RowCode x = new RowCode();
        for (int i = 0; i < 64; i++) {
            Due.same("the first put(" + i + ")", x.put(i, 1000 + i), 0);
        }
        for (int i = 0; i < 64; i++) {
            Due.same("word(" + i + ")", x.word(i), 1000 + i);
            Due.same("the second put(" + i + ")", x.put(i, -i), 1000 + i);
            Due.same("word(" + i + ")", x.word(i), -i);
        }
        for (int i : NONE_SUCH) {
            Due.same("put(" + i + ")", x.put(i, 77), 0);
            Due.same("put(" + i + ") again", x.put(i, 78), 0);
            Due.yes("word(" + i + ") throws", Due.wordThrows(x, i));
        }
        for (int i = 0; i < 64; i++) {
            Due.same("word(" + i + ") is as it was", x.word(i), -i);
            Due.no("word(" + i + ") throws", Due.wordThrows(x, i));
        }
        for (int i = 0; i < 16; i++) {
            Due.same("no local is changed", x.local(i), 0);
        }
        Due.same("put of the least value", x.put(0, Integer.MIN_VALUE), 0);
        Due.same("put of the greatest value", x.put(0, Integer.MAX_VALUE), Integer.MIN_VALUE);

        // A run sees what was put, and what it puts is seen.
        Due.addAll(x, 0, 63, 3, 0, 5, 0, 0, 0, 4, 0, 17, 0);
        x.put(63, 12);
        Due.same("run(0)", x.run(0), 4);
        Due.same("word(0) behind a run", x.word(0), -12);
        Due.same("put(0, 1) behind a run", x.put(0, 1), -12);
        Due.finish();
    }
}
