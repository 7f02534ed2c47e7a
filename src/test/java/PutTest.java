@Heading("Promise 10: put")
final class PutTest {
    private static final int[] NONE_SUCH = {-1, 64, 65, -64, 128, 256, Codes.MIN, Codes.MAX};

    private PutTest() {
    }

    public static void main(String[] args) {
        Sentences.holdAll(PutTest.class);
    }

    @Holds("A word gets a value")
    static void eachOfThe64GetsItsOwn() {
        RowCode x = new RowCode();
        for (int i = 0; i < 64; i++) {
            x.put(i, 1000 + i);
        }
        for (int i = 0; i < 64; i++) {
            Due.same("word(" + i + ")", x.word(i), 1000 + i);
        }
        for (int i = 0; i < 16; i++) {
            Due.same("local(" + i + ")", x.local(i), 0);
        }
    }

    @Holds("A word gets a value")
    static void theLeastAndTheGreatestValueAreKept() {
        RowCode x = new RowCode();
        for (int value : new int[] {Codes.MIN, Codes.MAX, -1, 0}) {
            x.put(63, value);
            Due.same("word(63)", x.word(63), value);
        }
    }

    @Holds("A word gets a value")
    static void aCodeFindsIt() {
        RowCode x = Codes.of(0, 0, 3, 0, 0, 63, 3, 0, 7, 1, 16, 0);
        x.put(0, 30);
        x.put(63, 12);
        Codes.ends("word 0 less word 63", x, 18);
        x.put(63, 13);
        Codes.ends("word 0 less another word 63", x, 17);
    }

    @Holds("what it was")
    static void itTellsWhatTheWordWas() {
        RowCode x = new RowCode();
        for (int i = 0; i < 64; i++) {
            Due.same("the first put(" + i + ")", x.put(i, 1000 + i), 0);
            Due.same("the second put(" + i + ")", x.put(i, -i), 1000 + i);
            Due.same("the third put(" + i + ")", x.put(i, Codes.MIN), -i);
            Due.same("the fourth put(" + i + ")", x.put(i, Codes.MAX), Codes.MIN);
        }
    }

    @Holds("what it was")
    static void itTellsWhatARunGaveTheWord() {
        RowCode x = Codes.of(0, -12, 0, 63, 4, 0, 17, 0);
        x.run(0);
        Due.same("put(63, 1) behind a run", x.put(63, 1), -12);
    }

    @Holds("0 when there is none.")
    static void aWordThatIsNotThereTells0EachTime() {
        RowCode x = new RowCode();
        for (int address : NONE_SUCH) {
            Due.same("put(" + address + ", 77)", x.put(address, 77), 0);
            Due.same("put(" + address + ", 78)", x.put(address, 78), 0);
        }
    }

    @Holds("0 when there is none.")
    static void aWordThatIsNotThereChangesNoOther() {
        RowCode x = new RowCode();
        int[] locals = new int[16];
        int[] words = new int[64];
        for (int i = 0; i < 16; i++) {
            locals[i] = 5 + i;
            x.set(i, locals[i]);
        }
        for (int i = 0; i < 64; i++) {
            words[i] = 100 + i;
            x.put(i, words[i]);
        }
        for (int address : NONE_SUCH) {
            Due.same("put(" + address + ", 77)", x.put(address, 77), 0);
        }
        Due.state("behind puts of no word", x, 0, 0, locals, words);
    }
}
