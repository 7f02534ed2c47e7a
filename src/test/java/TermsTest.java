/** What the words of the document mean; the instructions and what a right code is have tests of their own. */
@Heading("Terms")
final class TermsTest {
    private TermsTest() {
    }

    public static void main(String[] args) {
        Sentences.holdAll(TermsTest.class);
    }

    @Holds("An INSTRUCTION is a number and an argument k.")
    static void theSameNumberWithAnotherArgumentIsAnotherInstruction() {
        Codes.ends("0 3", Codes.of(0, 3, 16, 0), 3);
        Codes.ends("0 4", Codes.of(0, 4, 16, 0), 4);
        Codes.ends("7 0", Codes.of(0, 3, 0, 4, 7, 0, 16, 0), 7);
        Codes.ends("7 1", Codes.of(0, 3, 0, 4, 7, 1, 16, 0), -1);
    }

    @Holds("A ROW of values (32 bits)")
    static void theLeastAndTheGreatestValueOf32BitsStandOnTheRow() {
        for (int value : new int[] {Codes.MIN, Codes.MIN + 1, -1, 0, Codes.MAX - 1, Codes.MAX}) {
            Codes.ends("the number " + value, Codes.of(0, value, 16, 0), value);
            Codes.ends("the local " + value, Codes.ofLocals(value, 0, 1, 0, 16, 0), value);
        }
    }

    @Holds("A ROW of values (32 bits)")
    static void whatGoesBeyond32BitsComesRoundAtTheOtherEnd() {
        Codes.two(7, 0, Codes.MAX, 1, Codes.MIN);
        Codes.two(7, 1, Codes.MIN, 1, Codes.MAX);
        Codes.two(7, 2, Codes.MAX, 2, -2);
        Codes.one(5, Codes.MIN, Codes.MIN);
    }

    @Holds("is empty at first")
    static void atFirstTheRowHasNothingToTake() {
        for (int number : new int[] {2, 3, 5, 6, 14, 16}) {
            Codes.wrong("a " + number + " at first", number, 0, 17, 0);
        }
        Codes.right("a 14 when one has come", 0, 1, 14, 0, 17, 0);
    }

    @Holds("the TOP is the latest one.")
    static void theLatestOfSeveralIsTheTop() {
        Codes.ends("1 2 3", Codes.of(0, 1, 0, 2, 0, 3, 16, 0), 3);
        Codes.ends("1 2 3 without its top", Codes.of(0, 1, 0, 2, 0, 3, 14, 0, 16, 0), 2);
        Codes.ends("locals", Codes.ofLocals(8, 9, 1, 0, 1, 1, 16, 0), 9);
    }

    @Holds("the TOP is the latest one.")
    static void sixtyValuesGoInTheTurnOfTheLatestFirst() {
        RowCode x = new RowCode();
        for (int i = 0; i < 60; i++) {
            x.add(i % 2 == 0 ? 0 : 1, i % 2 == 0 ? i : 0);
            x.add(i % 3 == 0 ? 5 : 6, 0);
        }
        x.add(2, 15);
        for (int i = 58; i >= 0; i--) {
            Codes.add(x, 0, i, 4, 0);
        }
        x.add(17, 0);
        x.set(0, 77);
        Due.same("run(0)", x.run(0), 4);
        Due.same("local(15)", x.local(15), ~77);
        for (int i = 0; i < 59; i++) {
            int value = i % 2 == 0 ? i : 77;
            Due.same("word(" + i + ")", x.word(i), i % 3 == 0 ? -value : ~value);
        }
    }

    @Holds("There are 16 LOCALS")
    static void local15IsThereAndLocal16IsNot() {
        RowCode x = new RowCode();
        Due.same("local(15)", x.local(15), 0);
        Due.throwsForLocal(x, 16);
        Codes.right("1 15", 1, 15, 16, 0);
        Codes.wrong("1 16", 1, 16, 16, 0);
    }

    @Holds("and 64 WORDS")
    static void word63IsThereAndWord64IsNot() {
        RowCode x = new RowCode();
        Due.same("word(63)", x.word(63), 0);
        Due.throwsForWord(x, 64);
        Codes.ends("word 63", Codes.of(0, 63, 3, 0, 16, 0), 0);
        Due.same("run(0) of word 64", Codes.of(0, 64, 3, 0, 16, 0).run(0), 2);
    }

    @Holds(", 0 at first.")
    static void localsAndWordsAre0AtFirst() {
        Due.state("of a new object", new RowCode(), 0, 0, new int[0], new int[0]);
    }

    @Holds("FUEL is told.")
    static void aRunHasTheFuelThatItIsTold() {
        RowCode x = Codes.of(13, 0, 15, 0, 1, 0, 0, 1, 7, 0, 2, 0, 10, 0);
        for (int fuel : new int[] {0, 1, 2, 100, 20000}) {
            x.set(0, 0);
            Due.same("run(" + fuel + ")", x.run(fuel), 1);
            Due.same("how often it could spend of " + fuel, x.local(0), fuel);
        }
    }

    @Holds("All memory is the class's own.")
    static void twoObjectsShareNothing() {
        RowCode x = Codes.of(0, 1, 2, 0, 0, 2, 0, 0, 4, 0, 15, 0, 0, 3, 16, 0);
        RowCode y = Codes.of(0, 11, 2, 1, 0, 12, 0, 1, 4, 0, 17, 0);
        Due.same("run(5) of one", x.run(5), 0);
        Due.same("run(9) of the other", y.run(9), 4);
        Due.state("of the one", x, 3, 4, new int[] {1}, new int[] {2});
        Due.state("of the other", y, 0, 9, new int[] {0, 11}, new int[] {0, 12});
        y.clear();
        Due.same("run(5) of the one behind the other's clear", x.run(5), 0);
        Due.same("value()", x.value(), 3);
    }
}
