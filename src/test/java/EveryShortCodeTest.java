import java.util.ArrayList;
import java.util.List;

/** Promises 4 to 7, 9 and 11: holds RowCode against PlainRow on every code of so many parts out of a few. */
final class EveryShortCodeTest {
    // Each part is told as pairs of number and argument.
    private static final int[][] STEERING = {{0, 0}, {0, 1}, {1, 0}, {6, 0}, {10, 0}, {10, 1}, {11, 0}, {12, 1},
        {13, 0}, {13, 1}, {14, 0}, {15, 0}, {16, 0}, {18, 1, 12, 0}};
    private static final int[][] STRAIGHT = {{0, 0}, {0, -1}, {1, 0}, {1, 1}, {2, 0}, {3, 0}, {4, 0}, {5, 0}, {6, 0},
        {7, 1}, {7, 3}, {7, 5}, {8, 0}, {8, 2}, {9, 4}, {14, 0}, {15, 0}, {19, 0}, {20, 0}};
    private static final int[][] LOCALS = {{0, 0, 0}, {1, 2, 3}, {-1, 5, 0}, {63, -2, Codes.MIN}};
    private static final int[] NOTHING = {};
    private static final SideBySide BOTH = new SideBySide();
    private static int right;
    private static int wrong;

    private EveryShortCodeTest() {
    }

    public static void main(String[] args) {
        every(STEERING, 4, NOTHING, NOTHING);
        every(STEERING, 5, pairs(1, 0, 1, 1), pairs(16, 0));
        every(STEERING, 5, pairs(1, 0, 1, 1, 7, 0, 1, 0), pairs(13, 0, 16, 0));
        every(STEERING, 4, pairs(13, 1, 15, 0, 1, 1, 1, 0), pairs(16, 0, 13, 0, 17, 0));
        every(STRAIGHT, 4, NOTHING, pairs(16, 0));
        every(STRAIGHT, 3, pairs(1, 0, 1, 1, 1, 2), pairs(16, 0));
        every(STRAIGHT, 3, pairs(1, 0, 5, 0, 1, 1, 6, 0, 1, 2), pairs(7, 1, 16, 0));
        every(STRAIGHT, 3, pairs(0, 5, 1, 1, 5, 0, 1, 2, 5, 0), pairs(7, 1, 7, 1, 16, 0));
        System.out.println(right + " right codes, " + wrong + " others");
        Due.yes("enough codes are right", right > 50000);
        Due.yes("enough codes are wrong", wrong > 50000);
        Due.finish();
    }

    private static int[] pairs(int... pairs) {
        return pairs;
    }

    /** Every code of so many of these parts, with others ahead of them and behind. */
    private static void every(int[][] parts, int count, int[] ahead, int[] behind) {
        int[] chosen = new int[count];
        boolean isMore = true;
        while (isMore && Due.wrong() == 0) {
            List<int[]> code = new ArrayList<>();
            append(code, ahead);
            for (int part : chosen) {
                append(code, parts[part]);
            }
            append(code, behind);
            hold(code);
            isMore = choosesNext(chosen, parts.length);
        }
    }

    private static void append(List<int[]> code, int[] pairs) {
        for (int i = 0; i + 1 < pairs.length; i += 2) {
            code.add(new int[] {pairs[i], pairs[i + 1]});
        }
    }

    /** Counts on by one, as with digits; whether there was another one. */
    private static boolean choosesNext(int[] chosen, int bound) {
        for (int i = 0; i < chosen.length; i++) {
            chosen[i]++;
            if (chosen[i] < bound) {
                return true;
            }
            chosen[i] = 0;
        }
        return false;
    }

    private static void hold(List<int[]> code) {
        BOTH.load(code, LOCALS.length, LOCALS[0].length + 2);
        BOTH.build();
        if (!BOTH.isRight()) {
            wrong++;
            return;
        }
        right++;
        for (int[] locals : LOCALS) {
            for (int i = 0; i < locals.length; i++) {
                BOTH.set(i, locals[i]);
            }
            BOTH.put(0, 0x01020384);
            BOTH.put(2, -1);
            BOTH.run(2);
        }
    }
}
