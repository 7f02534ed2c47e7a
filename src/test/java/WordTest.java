@Heading("Promise 11: word")
final class WordTest {
    private WordTest() {
    }

    public static void main(String[] args) {
        Sentences.holdAll(WordTest.class);
    }

    @Holds("A word.")
    static void eachOfThe64IsTold() {
        RowCode x = new RowCode();
        for (int i = 0; i < 64; i++) {
            Due.same("word(" + i + ") ahead of a put", x.word(i), 0);
            x.put(i, -1 - i);
            Due.same("word(" + i + ")", x.word(i), -1 - i);
            Due.same("word(" + i + ") once more", x.word(i), -1 - i);
        }
    }

    @Holds("A word.")
    static void whatARunGaveItIsTold() {
        RowCode x = Codes.of(0, Codes.MIN, 0, 0, 4, 0, 0, Codes.MAX, 0, 63, 4, 0, 17, 0);
        x.run(0);
        Due.same("word(0)", x.word(0), Codes.MIN);
        Due.same("word(63)", x.word(63), Codes.MAX);
    }

    @Holds("NoSuchElementException: there is none.")
    static void belowTheFirstItThrows() {
        RowCode x = new RowCode();
        for (int address : new int[] {-1, -2, -64, Codes.MIN}) {
            Due.throwsForWord(x, address);
        }
    }

    @Holds("NoSuchElementException: there is none.")
    static void aboveTheLastItThrows() {
        RowCode x = new RowCode();
        for (int address : new int[] {64, 65, 128, 255, 256, Codes.MAX}) {
            Due.throwsForWord(x, address);
        }
    }

    @Holds("NoSuchElementException: there is none.")
    static void itThrowsBehindAPutOfNoWordToo() {
        RowCode x = new RowCode();
        for (int address : new int[] {-1, 64}) {
            x.put(address, 5);
            Due.throwsForWord(x, address);
        }
    }

    @Holds("NoSuchElementException: there is none.")
    static void aCallThatThrowsChangesNothing() {
        RowCode x = Codes.of(15, 0, 0, 5, 2, 0, 0, 6, 0, 0, 4, 0, 0, 7, 16, 0);
        x.run(2);
        Due.throwsForWord(x, 64);
        Due.state("behind word(64)", x, 7, 1, new int[] {5}, new int[] {6});
        Due.yes("build() behind word(64)", x.build());
        Due.same("run(0) behind word(64)", x.run(0), 1);
    }
}
