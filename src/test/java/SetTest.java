@Heading("Promise 8: set")
final class SetTest {
    private static final int[] NONE_SUCH = {-1, 16, 17, -16, 32, 64, 256, Codes.MIN, Codes.MAX};

    private SetTest() {
    }

    public static void main(String[] args) {
        Sentences.holdAll(SetTest.class);
    }

    @Holds("Local i gets a value")
    static void eachOfThe16GetsItsOwn() {
        RowCode x = new RowCode();
        for (int i = 0; i < 16; i++) {
            x.set(i, 1000 + i);
        }
        for (int i = 0; i < 16; i++) {
            Due.same("local(" + i + ")", x.local(i), 1000 + i);
            Due.same("word(" + i + ")", x.word(i), 0);
        }
    }

    @Holds("Local i gets a value")
    static void theLeastAndTheGreatestValueAreKept() {
        RowCode x = new RowCode();
        for (int value : new int[] {Codes.MIN, Codes.MAX, -1, 0}) {
            x.set(15, value);
            Due.same("local(15)", x.local(15), value);
        }
    }

    @Holds("Local i gets a value")
    static void aCodeFindsIt() {
        RowCode x = Codes.of(1, 0, 1, 15, 7, 1, 16, 0);
        x.set(0, 30);
        x.set(15, 12);
        Codes.ends("local 0 less local 15", x, 18);
        x.set(15, 13);
        Codes.ends("local 0 less another local 15", x, 17);
    }

    @Holds("what it was")
    static void itTellsWhatTheLocalWas() {
        RowCode x = new RowCode();
        for (int i = 0; i < 16; i++) {
            Due.same("the first set(" + i + ")", x.set(i, 1000 + i), 0);
            Due.same("the second set(" + i + ")", x.set(i, -i), 1000 + i);
            Due.same("the third set(" + i + ")", x.set(i, Codes.MIN), -i);
            Due.same("the fourth set(" + i + ")", x.set(i, Codes.MAX), Codes.MIN);
        }
    }

    @Holds("what it was")
    static void itTellsWhatARunGaveTheLocal() {
        RowCode x = Codes.of(0, -12, 2, 15, 17, 0);
        x.run(0);
        Due.same("set(15, 1) behind a run", x.set(15, 1), -12);
    }

    @Holds("0 when there is none.")
    static void aLocalThatIsNotThereTells0EachTime() {
        RowCode x = new RowCode();
        for (int i : NONE_SUCH) {
            Due.same("set(" + i + ", 77)", x.set(i, 77), 0);
            Due.same("set(" + i + ", 78)", x.set(i, 78), 0);
        }
    }

    @Holds("0 when there is none.")
    static void aLocalThatIsNotThereChangesNoOther() {
        RowCode x = new RowCode();
        int[] locals = new int[16];
        int[] words = new int[64];
        for (int i = 0; i < 16; i++) {
            locals[i] = 5 + i;
            x.set(i, locals[i]);
        }
        for (int i = 0; i < 64; i++) {
            words[i] = 100 + i;
            x.put(i, words[i]);
        }
        for (int i : NONE_SUCH) {
            Due.same("set(" + i + ", 77)", x.set(i, 77), 0);
        }
        Due.state("behind sets of no local", x, 0, 0, locals, words);
    }
}
