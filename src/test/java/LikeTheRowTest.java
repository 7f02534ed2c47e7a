import java.util.List;

/** Promises 4 to 11: holds RowCode against PlainRow on codes made by chance, each run with all that it leaves. */
final class LikeTheRowTest {
    private static final int CODES = 20000;
    private static final int SHORT_CODES = 300000;
    private static final int TIGHT_CODES = 200000;
    private static final int PUTS = 8;
    private static final SideBySide BOTH = new SideBySide();
    private static int right;
    private static int wrong;
    private static final int[] ANSWERS = new int[6];

    private LikeTheRowTest() {
    }

    public static void main(String[] args) {
        long seed = args.length > 1 ? Long.parseLong(args[1]) : 20261115L;
        CodeMaker maker = new CodeMaker(seed);
        for (int i = 0; i < CODES && Due.wrong() == 0; i++) {
            int size = i % 10 == 0 ? 1 + maker.below(340) : 1 + maker.below(50);
            hold(maker, i % 3 == 2 ? maker.spoiled(size) : maker.right(size), i % 3 != 2);
        }
        for (int i = 0; i < SHORT_CODES && Due.wrong() == 0; i++) {
            hold(maker, maker.steering(), false);
        }
        for (int i = 0; i < TIGHT_CODES && Due.wrong() == 0; i++) {
            hold(maker, maker.tight(), true);
        }
        System.out.println(right + " right codes, " + wrong + " others; runs by answer: none " + ANSWERS[0] + ", end "
            + ANSWERS[1] + ", no fuel " + ANSWERS[2] + ", no address " + ANSWERS[3] + ", division " + ANSWERS[4]
            + ", stop " + ANSWERS[5]);
        Due.yes("enough codes are right", right > 5000);
        Due.yes("enough codes are wrong", wrong > 5000);
        for (int answer = 0; answer < 6; answer++) {
            Due.yes("enough runs answer " + (answer - 1), ANSWERS[answer] > 200);
        }
        Due.finish();
    }

    private static void hold(CodeMaker maker, List<int[]> code, boolean mustBeRight) {
        int turns = code.size() > 20 && code.size() < 150 ? 3 : 1;
        BOTH.load(code, turns, 16 + PUTS);
        // A run finds out by itself whether the code is right.
        if (maker.below(2) == 0) {
            BOTH.build();
        }
        boolean isRight = BOTH.isRight();
        if (mustBeRight && !isRight) {
            Due.tell("the maker made a wrong code: " + BOTH);
        }
        if (isRight) {
            right++;
        } else {
            wrong++;
        }
        for (int turn = 0; turn < turns; turn++) {
            scatter(maker);
            int fuel = maker.below(8) == 0 ? maker.below(2000) : maker.below(12);
            ANSWERS[BOTH.run(fuel) + 1]++;
        }
    }

    private static void scatter(CodeMaker maker) {
        for (int i = 0; i < 16; i++) {
            BOTH.set(i, maker.value());
        }
        for (int n = 0; n < PUTS; n++) {
            BOTH.put(maker.below(64), maker.value());
        }
    }
}
