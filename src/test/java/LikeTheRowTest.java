import java.util.List;

/** Promises 4 to 11: holds RowCode against PlainRow on codes made by chance, each run with all that it leaves. */
final class LikeTheRowTest {
    private static final int CODES = 20000;
    private static final int SHORT_CODES = 300000;
    private static final int TIGHT_CODES = 200000;
    private static int right;
    private static int wrong;
    private static final int[] ANSWERS = new int[6];
    private static RowCode x = new RowCode();
    private static PlainRow plain = new PlainRow();
    private static int calls;

    private LikeTheRowTest() {
    }

    public static void main(String[] args) {
        long seed = args.length > 1 ? Long.parseLong(args[1]) : 20261115L;
        CodeMaker maker = new CodeMaker(seed);
        for (int i = 0; i < CODES && Due.wrong() == 0; i++) {
            int size = i % 10 == 0 ? 1 + maker.below(340) : 1 + maker.below(50);
            hold(maker, i % 3 == 2 ? maker.spoiled(size) : maker.right(size), i % 3 != 2);
        }
        for (int i = 0; i < SHORT_CODES && Due.wrong() == 0; i++) {
            hold(maker, maker.steering(), false);
        }
        for (int i = 0; i < TIGHT_CODES && Due.wrong() == 0; i++) {
            hold(maker, maker.tight(), true);
        }
        System.out.println(right + " right codes, " + wrong + " others; runs by answer: none " + ANSWERS[0] + ", end "
            + ANSWERS[1] + ", no fuel " + ANSWERS[2] + ", no address " + ANSWERS[3] + ", division " + ANSWERS[4]
            + ", stop " + ANSWERS[5]);
        Due.yes("enough codes are right", right > 5000);
        Due.yes("enough codes are wrong", wrong > 5000);
        for (int answer = 0; answer < 6; answer++) {
            Due.yes("enough runs answer " + (answer - 1), ANSWERS[answer] > 200);
        }
        Due.finish();
    }

    /** An object is used for one code behind the other, as long as 512 calls allow it. */
    private static void hold(CodeMaker maker, List<int[]> code, boolean mustBeRight) {
        int turns = code.size() > 20 && code.size() < 150 ? 3 : 1;
        int more = 2 + code.size() + turns * 107;
        calls += more;
        if (calls > 512) {
            x = new RowCode();
            plain = new PlainRow();
            calls = more;
        }
        x.clear();
        plain.code.clear();
        for (int[] c : code) {
            x.add(c[0], c[1]);
            plain.code.add(c);
        }
        boolean isRight = plain.right();
        // A run finds out by itself whether the code is right.
        if (maker.below(2) == 0) {
            same("build", 0, x.build() ? 1 : 0, isRight ? 1 : 0);
        }
        if (mustBeRight && !isRight) {
            Due.tell("the maker made a wrong code: " + plain);
        }
        if (isRight) {
            right++;
        } else {
            wrong++;
        }
        for (int turn = 0; turn < turns; turn++) {
            scatter(maker);
            runBoth(maker);
        }
    }

    private static void same(String call, int argument, long got, long want) {
        Due.same(got == want ? call : call + "(" + argument + ") of " + plain, got, want);
    }

    private static void scatter(CodeMaker maker) {
        for (int i = 0; i < 16; i++) {
            int value = maker.value();
            same("set", i, x.set(i, value), plain.locals[i]);
            plain.locals[i] = value;
        }
        for (int n = 0; n < 8; n++) {
            int address = maker.below(64);
            int value = maker.value();
            same("put", address, x.put(address, value), plain.words[address]);
            plain.words[address] = value;
        }
    }

    private static void runBoth(CodeMaker maker) {
        int fuel = maker.below(8) == 0 ? maker.below(2000) : maker.below(12);
        int answer = plain.run(fuel);
        ANSWERS[answer + 1]++;
        same("run", fuel, x.run(fuel), answer);
        same("value behind run", fuel, x.value(), plain.value);
        same("fuel behind run", fuel, x.fuel(), plain.fuel);
        for (int i = 0; i < 16; i++) {
            same("local", i, x.local(i), plain.locals[i]);
        }
        for (int i = 0; i < 64; i++) {
            same("word", i, x.word(i), plain.words[i]);
        }
    }
}
