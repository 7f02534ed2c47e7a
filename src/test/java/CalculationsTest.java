/** Instruction 7. */
@Heading("Terms")
final class CalculationsTest {
    private static final int MIN = Codes.MIN;
    private static final int MAX = Codes.MAX;

    private CalculationsTest() {
    }

    public static void main(String[] args) {
        Sentences.holdAll(CalculationsTest.class);
    }

    /** Each row: x, y, and what becomes of them. */
    private static void make(int k, int[]... rows) {
        for (int[] row : rows) {
            Codes.two(7, k, row[0], row[1], row[2]);
        }
    }

    private static int[] row(int x, int y, int value) {
        return new int[] {x, y, value};
    }

    @Holds("7 the top two x y (y on top) become one")
    static void theTwoGoAndOneComes() {
        Codes.ends("7 above another", Codes.of(0, 100, 0, 7, 0, 2, 7, 1, 7, 1, 16, 0), 95);
        Codes.ends("7 above another, locals", Codes.ofLocals(7, 2, 0, 100, 1, 0, 1, 1, 7, 1, 7, 1, 16, 0), 95);
        Codes.wrong("7 and two 14", 0, 1, 0, 2, 7, 0, 14, 0, 14, 0, 17, 0);
        Codes.wrong("7 with one value", 0, 1, 7, 0, 17, 0);
    }

    @Holds("7 the top two x y (y on top) become one")
    static void kBelow0OrAbove10IsNotRight() {
        for (int k : new int[] {-1, 11, MIN, MAX}) {
            Codes.wrong("7 " + k, 0, 1, 0, 2, 7, k, 16, 0);
        }
        for (int k = 0; k <= 10; k++) {
            Codes.right("7 " + k, 0, 1, 0, 2, 7, k, 16, 0);
        }
    }

    @Holds("by k 0 +")
    static void aSumWrapsAroundAtBothEnds() {
        make(0, row(MAX, 1, MIN), row(MIN, -1, MAX), row(MIN, MIN, 0), row(MAX, MAX, -2));
    }

    @Holds("by k 0 +")
    static void sums() {
        make(0, row(2, 3, 5), row(7, 0, 7), row(0, 7, 7), row(-5, 5, 0), row(MAX, MIN, -1), row(7, 1, 8),
            row(7, -1, 6));
    }

    @Holds("1 -")
    static void aDifferenceWrapsAroundAtBothEnds() {
        make(1, row(MIN, 1, MAX), row(MAX, -1, MIN), row(0, MIN, MIN), row(MAX, MIN, -1));
    }

    @Holds("1 -")
    static void differencesOfXLessY() {
        make(1, row(2, 3, -1), row(3, 2, 1), row(7, 0, 7), row(0, 7, -7), row(7, 7, 0), row(MIN, MIN, 0), row(7, 1, 6),
            row(7, -1, 8));
    }

    @Holds("2 *")
    static void aProductWrapsAround() {
        make(2, row(65536, 65536, 0), row(MAX, 2, -2), row(MIN, -1, MIN), row(MIN, 2, 0), row(MAX, MAX, 1),
            row(46341, 46341, -2147479015));
    }

    @Holds("2 *")
    static void products() {
        make(2, row(6, 7, 42), row(-6, 7, -42), row(9, 1, 9), row(1, 9, 9), row(9, 0, 0), row(0, 9, 0),
            row(9, -1, -9), row(9, 2, 18), row(9, -2, -18));
    }

    @Holds("3 / (towards 0)")
    static void aQuotientIsCutTowards0WhateverTheSigns() {
        make(3, row(7, 2, 3), row(-7, 2, -3), row(7, -2, -3), row(-7, -2, 3), row(1, 2, 0), row(-1, 2, 0),
            row(1, -2, 0), row(-1, MAX, 0), row(MAX, MIN, 0), row(MIN, MAX, -1));
    }

    @Holds("3 / (towards 0)")
    static void theLeastValueByMinus1WrapsAround() {
        make(3, row(MIN, -1, MIN));
    }

    @Holds("3 / (towards 0)")
    static void quotients() {
        make(3, row(9, 1, 9), row(9, -1, -9), row(0, 5, 0), row(0, 1, 0), row(0, -1, 0), row(MIN, 1, MIN),
            row(MIN, MIN, 1), row(MIN, 2, -1 << 30));
    }

    @Holds("4 its rest")
    static void theRestHasTheSignOfX() {
        make(4, row(7, 2, 1), row(-7, 2, -1), row(7, -2, 1), row(-7, -2, -1), row(1, 2, 1), row(-1, 2, -1),
            row(-1, MAX, -1), row(MAX, MIN, MAX), row(MIN, MAX, -1));
    }

    @Holds("4 its rest")
    static void theLeastValueByMinus1LeavesNoRest() {
        make(4, row(MIN, -1, 0));
    }

    @Holds("4 its rest")
    static void rests() {
        make(4, row(9, 1, 0), row(9, -1, 0), row(0, 5, 0), row(17, 5, 2), row(MIN, MIN, 0), row(MIN, 10, -8));
    }

    @Holds("5 and")
    static void bitsInBoth() {
        make(5, row(12, 10, 8), row(-1, 77, 77), row(77, -1, 77), row(5, 0, 0), row(0, 5, 0), row(MIN, MAX, 0),
            row(MIN, -1, MIN), row(77, -2, 76), row(77, 1, 1), row(77, 2, 0));
    }

    @Holds("6 or")
    static void bitsInEither() {
        make(6, row(12, 10, 14), row(77, 0, 77), row(0, 77, 77), row(5, -1, -1), row(-1, 5, -1), row(MIN, MAX, -1),
            row(76, 1, 77), row(77, -2, -1));
    }

    @Holds("7 the bits in which they are alike")
    static void bitsAlike() {
        make(7, row(12, 10, -7), row(0, 0, -1), row(77, -1, 77), row(-1, 77, 77), row(5, 0, -6), row(0, 5, -6),
            row(MIN, MAX, 0), row(MIN, MIN, -1), row(77, -2, 76), row(77, 1, -77));
    }

    @Holds("8 those in which they differ")
    static void bitsThatDiffer() {
        make(8, row(12, 10, 6), row(77, 77, 0), row(77, 0, 77), row(0, 77, 77), row(5, -1, -6), row(MIN, MAX, -1),
            row(MIN, MIN, 0), row(77, 1, 76), row(77, -2, -77));
    }

    @Holds("9 x shifted left by y")
    static void leftBy0To31() {
        make(9, row(3, 2, 12), row(5, 0, 5), row(-1, 4, -16), row(1, 31, MIN), row(-1, 31, MIN), row(2, 31, 0),
            row(MIN, 1, 0), row(MIN, 0, MIN), row(0x40000000, 1, MIN));
    }

    @Holds("10 right")
    static void rightBy0To31() {
        make(10, row(12, 2, 3), row(5, 0, 5), row(1, 1, 0), row(MAX, 30, 1), row(MAX, 31, 0));
    }

    @Holds("(without sign; by below 0 or above 31: 0)")
    static void aValueBelow0ComesWithoutItsSign() {
        make(10, row(-1, 1, MAX), row(-1, 31, 1), row(MIN, 31, 1), row(-16, 28, 15), row(-5, 0, -5), row(MIN, 0, MIN),
            row(MIN, 1, 1 << 30));
    }

    @Holds("(without sign; by below 0 or above 31: 0)")
    static void rightByBelow0Is0() {
        make(10, row(-1, -1, 0), row(8, -1, 0), row(-1, -31, 0), row(-1, -32, 0), row(8, MIN, 0), row(-1, MIN + 1, 0));
    }

    @Holds("(without sign; by below 0 or above 31: 0)")
    static void rightByAbove31Is0() {
        make(10, row(-1, 32, 0), row(8, 33, 0), row(-1, 63, 0), row(-1, 64, 0), row(-1, 256, 0), row(8, MAX, 0));
    }

    @Holds("(without sign; by below 0 or above 31: 0)")
    static void leftByBelow0Is0() {
        make(9, row(1, -1, 0), row(-1, -1, 0), row(-1, -31, 0), row(-1, -32, 0), row(8, MIN, 0), row(-1, MIN + 1, 0));
    }

    @Holds("(without sign; by below 0 or above 31: 0)")
    static void leftByAbove31Is0() {
        make(9, row(1, 32, 0), row(1, 33, 0), row(-1, 63, 0), row(-1, 64, 0), row(-1, 256, 0), row(8, MAX, 0));
    }
}
