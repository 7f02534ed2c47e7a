@Heading("Promise 9: local")
final class LocalTest {
    private LocalTest() {
    }

    public static void main(String[] args) {
        Sentences.holdAll(LocalTest.class);
    }

    @Holds("Local i.")
    static void eachOfThe16IsTold() {
        RowCode x = new RowCode();
        for (int i = 0; i < 16; i++) {
            Due.same("local(" + i + ") ahead of a set", x.local(i), 0);
            x.set(i, -1 - i);
            Due.same("local(" + i + ")", x.local(i), -1 - i);
            Due.same("local(" + i + ") once more", x.local(i), -1 - i);
        }
    }

    @Holds("Local i.")
    static void whatARunGaveItIsTold() {
        RowCode x = Codes.of(0, Codes.MIN, 2, 0, 0, Codes.MAX, 2, 15, 17, 0);
        x.run(0);
        Due.same("local(0)", x.local(0), Codes.MIN);
        Due.same("local(15)", x.local(15), Codes.MAX);
    }

    @Holds("NoSuchElementException: there is none.")
    static void belowTheFirstItThrows() {
        RowCode x = new RowCode();
        for (int i : new int[] {-1, -2, -16, Codes.MIN}) {
            Due.throwsForLocal(x, i);
        }
    }

    @Holds("NoSuchElementException: there is none.")
    static void aboveTheLastItThrows() {
        RowCode x = new RowCode();
        for (int i : new int[] {16, 17, 32, 63, 64, Codes.MAX}) {
            Due.throwsForLocal(x, i);
        }
    }

    @Holds("NoSuchElementException: there is none.")
    static void itThrowsBehindASetOfNoLocalToo() {
        RowCode x = new RowCode();
        for (int i : new int[] {-1, 16}) {
            x.set(i, 5);
            Due.throwsForLocal(x, i);
        }
    }

    @Holds("NoSuchElementException: there is none.")
    static void aCallThatThrowsChangesNothing() {
        RowCode x = Codes.of(15, 0, 0, 5, 2, 0, 0, 6, 0, 0, 4, 0, 0, 7, 16, 0);
        x.run(2);
        Due.throwsForLocal(x, 16);
        Due.state("behind local(16)", x, 7, 1, new int[] {5}, new int[] {6});
        Due.yes("build() behind local(16)", x.build());
        Due.same("run(0) behind local(16)", x.run(0), 1);
    }
}
