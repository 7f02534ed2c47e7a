/** Instructions 0, 1, 2, 5, 6 and 14. */
@Heading("Terms")
final class RowInstructionsTest {
    private static final int[] VALUES =
        {0, 1, -1, 8388607, 8388608, -8388608, -8388609, 0x7f000001, Codes.MIN, Codes.MAX};

    private RowInstructionsTest() {
    }

    public static void main(String[] args) {
        Sentences.holdAll(RowInstructionsTest.class);
    }

    @Holds("0 k comes on top.")
    static void anyNumberComesOnTopTheLeastAndTheGreatestToo() {
        for (int value : VALUES) {
            Codes.ends("0 " + value, Codes.of(0, value, 16, 0), value);
            Codes.ends("0 " + value + " above another", Codes.of(0, 5, 0, value, 16, 0), value);
        }
    }

    @Holds("1 local k (0 .. 15) does.")
    static void localsFrom0To15Come() {
        for (int i = 0; i < 16; i++) {
            RowCode x = Codes.of(1, i, 16, 0);
            x.set(i, 100 + i);
            Codes.ends("1 " + i, x, 100 + i);
        }
    }

    @Holds("1 local k (0 .. 15) does.")
    static void aLocalBelow0OrAbove15IsNotRight() {
        for (int i : new int[] {-1, 16, Codes.MIN, Codes.MAX}) {
            Codes.wrong("1 " + i, 1, i, 16, 0);
        }
    }

    @Holds("1 local k (0 .. 15) does.")
    static void theValueOnTheRowStaysWhateverTheLocalGetsLater() {
        Codes.ends("an old value below", Codes.ofLocals(1, 0, 1, 0, 0, 5, 2, 0, 1, 0, 7, 1, 16, 0), -4);
        Codes.ends("three old values",
            Codes.ofLocals(2, 0, 1, 0, 1, 0, 1, 0, 0, 9, 2, 0, 7, 0, 7, 0, 1, 0, 7, 2, 16, 0), 54);
    }

    @Holds("2 the top goes to local k.")
    static void anyValueGoesToLocalsFrom0To15() {
        for (int i = 0; i < 16; i++) {
            for (int value : VALUES) {
                RowCode x = Codes.of(0, value, 2, i, 0, 4, 16, 0);
                Codes.ends("2 " + i + " of " + value, x, 4);
                for (int other = 0; other < 16; other++) {
                    Due.same("local(" + other + ") behind 2 " + i, x.local(other), other == i ? value : 0);
                }
            }
        }
    }

    @Holds("2 the top goes to local k.")
    static void toALocalBelow0OrAbove15IsNotRight() {
        for (int i : new int[] {-1, 16, Codes.MIN, Codes.MAX}) {
            Codes.wrong("2 " + i, 0, 1, 2, i, 17, 0);
        }
    }

    @Holds("2 the top goes to local k.")
    static void theTopGoesAndNotACopyOfIt() {
        Codes.ends("2 of the upper of two", Codes.of(0, 8, 0, 9, 2, 0, 16, 0), 8);
        Codes.wrong("2 of the only one and an end", 0, 9, 2, 0, 16, 0);
        Codes.wrong("2 with an empty row", 2, 0, 17, 0);
    }

    @Holds("2 the top goes to local k.")
    static void twoLocalsChangeAbout() {
        RowCode x = Codes.ofLocals(3, 4, 1, 0, 1, 1, 2, 0, 2, 1, 17, 0);
        Due.same("run(0)", x.run(0), 4);
        Due.same("local(0)", x.local(0), 4);
        Due.same("local(1)", x.local(1), 3);
    }

    @Holds("5 the top becomes its negative")
    static void theNegativeOfTheLeastValueIsItself() {
        Codes.one(5, Codes.MIN, Codes.MIN);
    }

    @Holds("5 the top becomes its negative")
    static void theNegativeOf0AndOthers() {
        int[][] negatives = {{0, 0}, {1, -1}, {-7, 7}, {Codes.MAX, -Codes.MAX}, {-Codes.MAX, Codes.MAX}};
        for (int[] n : negatives) {
            Codes.one(5, n[0], n[1]);
        }
        Codes.ends("5 5", Codes.ofLocals(9, 0, 1, 0, 5, 0, 5, 0, 16, 0), 9);
        Codes.ends("5 6", Codes.ofLocals(9, 0, 1, 0, 5, 0, 6, 0, 16, 0), 8);
    }

    @Holds("6 all its bits turned.")
    static void allBitsOf0AndTheOuterValuesTurn() {
        int[][] turned = {{0, -1}, {-1, 0}, {5, -6}, {Codes.MAX, Codes.MIN}, {Codes.MIN, Codes.MAX}};
        for (int[] t : turned) {
            Codes.one(6, t[0], t[1]);
        }
        Codes.ends("6 6", Codes.ofLocals(9, 0, 1, 0, 6, 0, 6, 0, 16, 0), 9);
        Codes.ends("6 5", Codes.ofLocals(9, 0, 1, 0, 6, 0, 5, 0, 16, 0), 10);
    }

    @Holds("14 the top goes.")
    static void theOneBelowIsTheTopThen() {
        Codes.ends("14", Codes.of(0, 8, 0, 9, 14, 0, 16, 0), 8);
        Codes.ends("14 of what was made", Codes.ofLocals(3, 0, 1, 0, 5, 0, 1, 0, 6, 0, 14, 0, 16, 0), -3);
    }

    @Holds("14 the top goes.")
    static void theLastOneMayGoButNoneFromAnEmptyRow() {
        Codes.right("14 of the only one", 0, 8, 14, 0, 17, 0);
        Codes.wrong("14 with an empty row", 14, 0, 17, 0);
        Codes.wrong("14 once too often", 0, 8, 14, 0, 14, 0, 17, 0);
    }
}
