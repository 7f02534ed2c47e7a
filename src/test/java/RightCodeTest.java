/** What a right code is. */
@Heading("Terms")
final class RightCodeTest {
    private static final int MIN = Codes.MIN;
    private static final int MAX = Codes.MAX;
    // How many values each number takes; for 16 and 18 the one that they look at.
    private static final int[] TAKES = {0, 0, 1, 1, 2, 1, 1, 2, 2, 2, 0, 1, 1, 0, 1, 0, 1, 0, 1, 2, 3};

    private RightCodeTest() {
    }

    public static void main(String[] args) {
        Sentences.holdAll(RightCodeTest.class);
    }

    private static RowCode values(int count) {
        RowCode x = new RowCode();
        Codes.addTimes(x, count, 0, 1);
        return x;
    }

    @Holds("A code is RIGHT if it has an instruction")
    static void noInstructionIsNotRight() {
        Codes.wrong("nothing");
        RowCode x = Codes.of(17, 0);
        x.clear();
        Codes.wrong("nothing behind a clear", x);
    }

    @Holds("A code is RIGHT if it has an instruction")
    static void oneInstructionCanBeRight() {
        Codes.right("a stop alone", 17, 0);
    }

    @Holds("each number and argument is as said")
    static void numbersBelow0OrAbove20AreNotRight() {
        for (int number : new int[] {-1, 21, 22, 100, MIN, MAX}) {
            Codes.wrong("number " + number, number, 0, 17, 0);
            Codes.wrong("number " + number + " with values", 0, 1, 0, 2, 0, 3, number, 0, 17, 0);
            Codes.wrong("number " + number + " where no way comes", 17, 0, number, 0);
        }
    }

    @Holds("each number and argument is as said")
    static void theLeastAndTheGreatestArgumentAreRightAndOneFartherIsNot() {
        int[][] greatest = {{1, 15}, {2, 15}, {7, 10}, {8, 5}, {9, 5}, {13, 99}};
        for (int[] g : greatest) {
            for (int k : new int[] {0, g[1]}) {
                Codes.right(g[0] + " " + k, 0, 1, 0, 2, g[0], k, 17, 0);
            }
            for (int k : new int[] {-1, g[1] + 1, MIN, MAX}) {
                Codes.wrong(g[0] + " " + k, 0, 1, 0, 2, g[0], k, 17, 0);
            }
        }
    }

    @Holds("each number and argument is as said")
    static void anArgumentOutsideIsNotRightWhereNoWayComesEither() {
        for (int[] c : new int[][] {{1, 16}, {2, -1}, {7, 11}, {8, 6}, {9, -1}, {13, 100}}) {
            Codes.wrong(c[0] + " " + c[1] + " where no way comes", 17, 0, c[0], c[1]);
        }
    }

    @Holds("(where none is told, any will do)")
    static void anyArgumentWillDoWhereNoneIsTold() {
        for (int number : new int[] {0, 3, 4, 5, 6, 14, 15, 16, 17, 19, 20}) {
            for (int k : new int[] {-1, 0, 16, 100, MIN, MAX}) {
                Codes.right(number + " " + k, 0, 1, 0, 2, 0, 3, number, k, 17, 0);
            }
        }
        for (int k : new int[] {-1, 0, 16, 100, MIN, MAX}) {
            Codes.right("18 " + k, 0, 1, 18, k, 12, 0, 14, 0, 13, 0, 17, 0);
        }
    }

    @Holds("(where none is told, any will do)")
    static void suchAnArgumentChangesNothing() {
        for (int k : new int[] {-1, 1, MIN, MAX}) {
            Codes.ends("3, 5, 6, 16 with " + k, Codes.of(0, 3, 3, k, 5, k, 6, k, 16, k), -1);
            Codes.ends("4, 14 with " + k, Codes.of(0, 8, 0, 9, 14, k, 0, 9, 4, k, 0, 9, 3, k, 16, k), 8);
            Codes.ends("20, 19 with " + k, Codes.of(0, 8, 0, 9, 0, 1, 20, k, 0, 9, 0, 1, 19, k, 16, k), 8);
            Due.same("run(0) of 17 with " + k, Codes.of(17, k).run(0), 4);
        }
    }

    @Holds("no label is there twice")
    static void aLabelTwiceIsNotRight() {
        Codes.wrong("label 7 twice", 13, 7, 13, 7, 17, 0);
        Codes.wrong("label 0 twice", 13, 0, 17, 0, 13, 0, 17, 0);
        Codes.wrong("label 99 twice, and gone to", 10, 99, 13, 99, 13, 99, 17, 0);
        Codes.wrong("label 7 twice where no way comes", 17, 0, 13, 7, 13, 7);
    }

    @Holds("no label is there twice")
    static void all100LabelsOnceAreRight() {
        RowCode x = new RowCode();
        for (int label = 0; label < 100; label++) {
            x.add(13, label);
        }
        x.add(17, 0);
        Codes.right("all labels", x);
        x.add(13, 50);
        Codes.wrong("all labels and one of them again", x);
    }

    @Holds("those that are gone to are there")
    static void aLabelThatIsGoneToAndIsNotThereIsNotRight() {
        for (int number = 10; number <= 12; number++) {
            for (int label : new int[] {3, 0, 99, -1, 100, MIN, MAX}) {
                Codes.wrong(number + " to no label " + label, 0, 1, number, label, 13, 4, 17, 0);
            }
        }
        Codes.wrong("18 to no label", 0, 1, 18, 1, 12, 5, 17, 0);
        Codes.wrong("10 to no label", 10, 0);
    }

    @Holds("those that are gone to are there")
    static void thatIsSoWhereNoWayComesToo() {
        for (int number = 10; number <= 12; number++) {
            Codes.wrong(number + " to no label where no way comes", 17, 0, number, 3);
        }
    }

    @Holds("those that are gone to are there")
    static void aLabelThatNothingGoesToIsRight() {
        Codes.right("a label that nothing goes to", 13, 7, 17, 0);
    }

    @Holds("each 18 has its 12")
    static void an18WithoutIts12IsNotRight() {
        Codes.wrong("18 at the last place", 0, 1, 18, 1);
        Codes.wrong("18 and a stop", 0, 1, 18, 1, 17, 0);
        Codes.wrong("18 with the 12 one farther", 0, 1, 18, 1, 0, 1, 12, 0, 14, 0, 13, 0, 17, 0);
        Codes.wrong("two 18 with one 12", 0, 1, 18, 1, 18, 2, 12, 0, 14, 0, 13, 0, 17, 0);
    }

    @Holds("each 18 has its 12")
    static void an18WithoutIts12IsNotRightWhereNoWayComesEither() {
        Codes.wrong("18 and a stop where no way comes", 17, 0, 18, 1, 17, 0);
        Codes.wrong("18 at the last place where no way comes", 17, 0, 18, 1);
    }

    @Holds("and along all WAYS from the first instruction")
    static void whereNoWayComesTheRowIsNotLookedAt() {
        Codes.right("an empty row where no way comes", 17, 0, 14, 0, 7, 0, 16, 0);
        Codes.right("a way behind the last where no way comes", 17, 0, 0, 1);
        Codes.right("a free round where no way comes", 17, 0, 13, 0, 10, 0);
        Codes.right("two lengths, one where no way comes", 10, 0, 0, 1, 13, 0, 17, 0);
        RowCode x = Codes.of(17, 0);
        Codes.addTimes(x, 61, 0, 1);
        x.add(17, 0);
        Codes.right("61 values where no way comes", x);
    }

    @Holds("(a 11, 12, 18 goes both ways)")
    static void bothWaysCountThoughTheValueTellsOne() {
        for (int top = 0; top <= 1; top++) {
            for (int number = 11; number <= 12; number++) {
                String what = number + " on " + top;
                Codes.wrong(what + ", a fault on its way on", 0, top, number, 1, 14, 0, 17, 0, 13, 1, 17, 0);
                Codes.wrong(what + ", a fault at its label", 0, top, number, 1, 17, 0, 13, 1, 14, 0, 17, 0);
            }
            String what = "18 on " + top;
            Codes.wrong(what + ", a fault on its way on", 0, top, 18, 1, 12, 1, 14, 0, 14, 0, 17, 0, 13, 1, 17, 0);
            Codes.wrong(what + ", a fault at its label", 0, top, 18, 1, 12, 1, 17, 0, 13, 1, 14, 0, 17, 0);
        }
    }

    @Holds("(a 11, 12, 18 goes both ways)")
    static void the12OfAn18IsNoWayOfItsOwn() {
        Codes.right("18 with one value", 0, 1, 18, 1, 12, 0, 17, 0, 13, 0, 17, 0);
        Codes.right("18 with its value on one way", 0, 1, 18, 1, 12, 0, 16, 0, 13, 0, 17, 0);
    }

    @Holds("the row always has what is taken")
    static void oneValueTooFewIsNotRightAndJustEnoughIs() {
        for (int number = 0; number <= 20; number++) {
            for (int count = 0; count <= 4; count++) {
                RowCode x = values(count);
                x.add(number, 0);
                if (number == 18) {
                    x.add(12, 0);
                }
                x.add(17, 0);
                if (number >= 10 && number <= 12 || number == 18) {
                    Codes.add(x, 13, 0, 17, 0);
                }
                String what = number + " with " + count + " values";
                if (count >= TAKES[number]) {
                    Codes.right(what, x);
                } else {
                    Codes.wrong(what, x);
                }
            }
        }
    }

    @Holds("the row always has what is taken")
    static void eachNumberLeavesJustSoManyValues() {
        int[] change = {1, 1, -1, 0, -2, 0, 0, -1, -1, 0, 0, -1, -1, 0, -1, 0, 0, 0, 0, -1, -3};
        for (int number = 0; number <= 20; number++) {
            if (number >= 10 && number <= 12 || number >= 16 && number <= 18) {
                continue;
            }
            int left = 3 + change[number];
            RowCode x = values(3);
            x.add(number, 0);
            Codes.addTimes(x, left, 14, 0);
            RowCode y = values(3);
            y.add(number, 0);
            Codes.addTimes(y, left + 1, 14, 0);
            x.add(17, 0);
            y.add(17, 0);
            Codes.right(number + " and " + left + " times 14", x);
            Codes.wrong(number + " and " + (left + 1) + " times 14", y);
        }
    }

    @Holds("the row always has what is taken")
    static void eachWayOfAJumpLeavesJustSoManyValues() {
        for (int number = 10; number <= 12; number++) {
            int left = number == 10 ? 2 : 1;
            for (int more = 0; more <= 1; more++) {
                RowCode x = Codes.of(0, 1, 0, 2, number, 0, 17, 0, 13, 0);
                Codes.addTimes(x, left + more, 14, 0);
                x.add(17, 0);
                if (more == 0) {
                    Codes.right(number + " and " + left + " times 14", x);
                } else {
                    Codes.wrong(number + " and " + (left + 1) + " times 14", x);
                }
            }
        }
        Codes.right("18 and its value at its way on", 0, 1, 18, 1, 12, 0, 14, 0, 17, 0, 13, 0, 17, 0);
        Codes.wrong("18 and its value at its label", 0, 1, 18, 1, 12, 0, 17, 0, 13, 0, 14, 0, 17, 0);
    }

    @Holds("the row always has what is taken")
    static void aFaultFarDownAWayIsFound() {
        RowCode x = new RowCode();
        Codes.addTimes(x, 397, 15, 0);
        Codes.add(x, 14, 0, 17, 0);
        Codes.wrong("14 as number 398", x);
    }

    @Holds("never more than 60 values")
    static void sixtyValuesAreRightAnd61AreNot() {
        for (int number = 0; number <= 1; number++) {
            for (int count = 59; count <= 62; count++) {
                RowCode x = new RowCode();
                Codes.addTimes(x, count, number, 1);
                x.add(17, 0);
                if (count <= 60) {
                    Codes.right(count + " values by " + number, x);
                } else {
                    Codes.wrong(count + " values by " + number, x);
                }
            }
        }
    }

    @Holds("never more than 60 values")
    static void with60ValuesWhatAddsNoneIsRight() {
        for (int number = 2; number <= 20; number++) {
            RowCode x = values(60);
            x.add(number, 0);
            if (number == 18) {
                x.add(12, 0);
            }
            x.add(17, 0);
            if (number >= 10 && number <= 12 || number == 18) {
                Codes.add(x, 13, 0, 17, 0);
            }
            Codes.right("60 values and a " + number, x);
        }
    }

    @Holds("never more than 60 values")
    static void the61stIsNotRightThoughItGoesAtOnce() {
        for (int number = 0; number <= 1; number++) {
            RowCode x = values(60);
            Codes.add(x, number, 0, 14, 0, 17, 0);
            Codes.wrong("a 61st value by " + number + " that goes at once", x);
            RowCode y = values(60);
            Codes.add(y, 14, 0, number, 0, 17, 0);
            Codes.right("a 60th value by " + number + " once more", y);
        }
    }

    @Holds("never more than 60 values")
    static void the61stOnOneOfTwoWaysIsNotRight() {
        RowCode x = values(60);
        Codes.add(x, 12, 0, 0, 1, 0, 2, 17, 0, 13, 0, 17, 0);
        Codes.wrong("a 61st value behind a 12", x);
        RowCode y = values(60);
        Codes.add(y, 12, 0, 0, 1, 17, 0, 13, 0, 0, 1, 17, 0);
        Codes.right("a 60th value on both ways", y);
    }

    @Holds("never more than 60 values")
    static void moreThan60InTurnAreRight() {
        RowCode x = new RowCode();
        Codes.addTimes(x, 199, 0, 1, 14, 0);
        x.add(17, 0);
        Codes.right("199 values one behind the other", x);
    }

    @Holds("is as long by each way that comes to an instruction")
    static void twoLengthsAtALabelAreNotRight() {
        Codes.wrong("none and one at a label", 0, 1, 11, 1, 0, 7, 13, 1, 17, 0);
        Codes.wrong("one and two at a label", 0, 9, 0, 1, 11, 1, 0, 7, 13, 1, 16, 0);
        Codes.wrong("two and one at a label", 0, 9, 0, 1, 0, 1, 12, 1, 14, 0, 13, 1, 16, 0);
        Codes.right("one and one at a label", 0, 9, 0, 1, 11, 1, 14, 0, 0, 7, 13, 1, 16, 0);
    }

    @Holds("is as long by each way that comes to an instruction")
    static void twoLengthsByAn18AreNotRight() {
        Codes.wrong("18 and its label next", 0, 1, 18, 1, 12, 0, 13, 0, 17, 0);
        Codes.right("18, a 14 and its label", 0, 1, 18, 1, 12, 0, 14, 0, 13, 0, 17, 0);
    }

    @Holds("is as long by each way that comes to an instruction")
    static void aRoundThatMakesTheRowLongerOrShorterIsNotRight() {
        Codes.wrong("a round that makes the row longer", 13, 0, 15, 0, 0, 1, 10, 0);
        Codes.wrong("a round that makes the row shorter", 0, 1, 0, 2, 13, 0, 15, 0, 14, 0, 10, 0);
        Codes.wrong("a way back to the first with a longer row", 13, 0, 15, 0, 1, 0, 1, 0, 12, 0, 17, 0);
        Codes.right("a round with values below", 0, 1, 0, 2, 13, 0, 15, 0, 0, 3, 14, 0, 10, 0);
    }

    @Holds("no way comes behind the last instruction")
    static void aLastInstructionThatGoesOnIsNotRight() {
        for (int number = 0; number <= 20; number++) {
            if (number == 16 || number == 17 || number == 18 || number >= 10 && number <= 12) {
                continue;
            }
            Codes.wrong("a " + number + " at the last place", 0, 1, 0, 1, 0, 1, number, 0);
        }
        Codes.wrong("a 11 at the last place", 13, 0, 15, 0, 0, 1, 11, 0);
        Codes.wrong("a 12 at the last place", 13, 0, 15, 0, 0, 1, 12, 0);
        Codes.wrong("an 18 with its 12 at the last place", 0, 1, 13, 0, 15, 0, 0, 1, 18, 1, 12, 0);
    }

    @Holds("no way comes behind the last instruction")
    static void aLastInstructionThatGoesNotOnIsRight() {
        Codes.right("a 10 at the last place", 13, 0, 15, 0, 10, 0);
        Codes.right("a stop at the last place", 17, 0);
        Codes.right("an end at the last place", 0, 1, 16, 0);
    }

    @Holds("no way comes behind the last instruction")
    static void theLastOf400IsLookedAtToo() {
        RowCode x = new RowCode();
        Codes.addTimes(x, 400, 15, 0);
        Codes.wrong("400 times 15", x);
        RowCode y = new RowCode();
        Codes.addTimes(y, 399, 15, 0);
        y.add(17, 0);
        Codes.right("399 times 15 and a stop", y);
    }

    @Holds("and none goes round without a 15 between.")
    static void aRoundWithoutA15IsNotRight() {
        Codes.wrong("a round of two", 13, 0, 10, 0);
        Codes.wrong("a round by a 11", 13, 0, 1, 0, 11, 0, 17, 0);
        Codes.wrong("a round by a 12", 13, 0, 1, 0, 12, 0, 17, 0);
        Codes.wrong("a round by an 18", 0, 1, 13, 0, 0, 2, 18, 2, 12, 0, 17, 0);
        Codes.wrong("two labels that go to each other", 10, 1, 13, 0, 10, 1, 13, 1, 10, 0);
        Codes.wrong("a round that the values never go", 13, 0, 0, 0, 12, 0, 17, 0);
    }

    @Holds("and none goes round without a 15 between.")
    static void a15AnywhereInTheRoundMakesItRight() {
        Codes.right("a 15 first", 13, 0, 15, 0, 1, 0, 14, 0, 10, 0);
        Codes.right("a 15 in the middle", 13, 0, 1, 0, 15, 0, 14, 0, 10, 0);
        Codes.right("a 15 last", 13, 0, 1, 0, 14, 0, 15, 0, 10, 0);
        Codes.right("a 15 in a round by a 11", 13, 0, 15, 0, 1, 0, 11, 0, 17, 0);
        Codes.right("a 15 in a round by a 12", 13, 0, 15, 0, 1, 0, 12, 0, 17, 0);
        Codes.right("a 15 in a round by an 18", 0, 1, 13, 0, 15, 0, 0, 2, 18, 2, 12, 0, 17, 0);
        Codes.right("a 15 in a round of two labels", 10, 1, 13, 0, 10, 1, 13, 1, 15, 0, 10, 0);
    }

    @Holds("and none goes round without a 15 between.")
    static void a15OutsideTheRoundIsNotEnough() {
        Codes.wrong("a 15 ahead of the round", 15, 0, 13, 0, 10, 0);
        Codes.wrong("a 15 behind the round", 13, 0, 1, 0, 12, 0, 15, 0, 17, 0);
        Codes.wrong("a 15 on one side of the round alone", 13, 0, 1, 0, 11, 1, 15, 0, 13, 1, 10, 0);
        Codes.right("a 15 on both sides of the round", 13, 0, 1, 0, 11, 1, 15, 0, 10, 0, 13, 1, 15, 0, 10, 0);
        Codes.wrong("an inner round without a 15", 13, 0, 15, 0, 13, 1, 1, 0, 12, 1, 10, 0);
        Codes.right("an inner round with a 15", 13, 0, 15, 0, 13, 1, 15, 0, 1, 0, 12, 1, 10, 0);
        Codes.wrong("a 15 passed over by an 18", 0, 1, 13, 0, 18, 1, 12, 1, 10, 0, 13, 1, 15, 0, 17, 0);
    }

    @Holds("and none goes round without a 15 between.")
    static void aWayBackThatIsNoRoundNeedsNo15() {
        Codes.right("a way back", 10, 1, 13, 0, 17, 0, 13, 1, 10, 0);
        Codes.right("two ways to one label", 1, 0, 11, 0, 1, 0, 12, 0, 13, 0, 17, 0);
    }

    @Holds("and none goes round without a 15 between.")
    static void theLongestRoundIsLookedAtToo() {
        RowCode x = Codes.of(13, 0);
        Codes.addTimes(x, 199, 1, 0, 14, 0);
        x.add(10, 0);
        Codes.wrong("a round of 400 without a 15", x);
        RowCode y = Codes.of(13, 0);
        Codes.addTimes(y, 198, 1, 0, 14, 0);
        Codes.add(y, 15, 0, 10, 0);
        Codes.right("a round of 399 with a 15", y);
    }
}
