/** Instructions 8 and 9. */
@Heading("Terms")
final class ComparisonsTest {
    private static final int MIN = Codes.MIN;
    private static final int MAX = Codes.MAX;
    // Below, equal, above; with the outer values, whose difference is beyond 32 bits.
    private static final int[][] PAIRS = {{1, 2}, {2, 1}, {2, 2}, {MIN, MAX}, {MAX, MIN}, {-1, 0}, {0, 0}, {0, -1},
        {MIN, MIN}, {MAX, MAX}, {MIN, 1}, {1, MIN}, {MAX, -1}, {-1, MAX}, {MIN, 0}, {0, MIN}};

    private ComparisonsTest() {
    }

    public static void main(String[] args) {
        Sentences.holdAll(ComparisonsTest.class);
    }

    private static boolean holds(int k, int[] pair) {
        int sign = Long.signum((long) pair[0] - pair[1]);
        boolean[] all = {sign == 0, sign != 0, sign < 0, sign <= 0, sign > 0, sign >= 0};
        return all[k];
    }

    /** What 8 with this k makes of all the pairs, and of what is made of it then. */
    private static void makesOfAllPairs(int k) {
        for (int[] p : PAIRS) {
            int value = holds(k, p) ? -1 : 0;
            Codes.two(8, k, p[0], p[1], value);
            String what = "8 " + k + " on " + p[0] + " " + p[1];
            Codes.ends(what + " turned", Codes.ofLocals(p[0], p[1], 1, 0, 1, 1, 8, k, 6, 0, 16, 0), ~value);
            comparesAgain(what, k, p);
            Codes.ends(what + " negative", Codes.ofLocals(p[0], p[1], 1, 0, 1, 1, 8, k, 5, 0, 16, 0), -value);
            steers(what, k, p);
        }
    }

    /** What becomes of the -1 or 0 when it is compared itself. */
    private static void comparesAgain(String what, int k, int[] p) {
        int first = holds(k, p) ? -1 : 0;
        for (int y = -2; y <= 2; y++) {
            for (int again = 0; again <= 5; again++) {
                int value = holds(again, new int[] {first, y}) ? -1 : 0;
                Codes.ends(what + " and 8 " + again + " with " + y,
                    Codes.ofLocals(p[0], p[1], 1, 0, 1, 1, 8, k, 0, y, 8, again, 16, 0), value);
            }
        }
    }

    private static void steers(String what, int k, int[] p) {
        for (int number = 11; number <= 12; number++) {
            int value = holds(k, p) == (number == 12) ? 20 : 10;
            Codes.ends(what + " and " + number, Codes.ofLocals(p[0], p[1], 1, 0, 1, 1, 8, k, number, 5, 0, 10, 16, 0,
                13, 5, 0, 20, 16, 0), value);
            Codes.ends(what + " and " + number + ", the second made", Codes.ofLocals(p[0], ~p[1], 1, 0, 1, 1, 6, 0,
                8, k, number, 5, 0, 10, 16, 0, 13, 5, 0, 20, 16, 0), value);
        }
    }

    @Holds("8 x y become -1 if x = (k 0)")
    static void equal() {
        makesOfAllPairs(0);
    }

    @Holds("not = (1)")
    static void notEqual() {
        makesOfAllPairs(1);
    }

    @Holds("< (2)")
    static void belowWithNoWrapAround() {
        makesOfAllPairs(2);
    }

    @Holds("<= (3)")
    static void belowOrEqualWithNoWrapAround() {
        makesOfAllPairs(3);
    }

    @Holds("> (4)")
    static void aboveWithNoWrapAround() {
        makesOfAllPairs(4);
    }

    @Holds(">= (5) y")
    static void aboveOrEqualWithNoWrapAround() {
        makesOfAllPairs(5);
    }

    @Holds("else 0.")
    static void nothingButMinus1And0ComesOfAComparison() {
        for (int k = 0; k <= 5; k++) {
            int below = k == 1 || k == 2 || k == 3 ? -1 : 0;
            Codes.two(8, k, 0, 1000, below);
            int above = k == 1 || k == 4 || k == 5 ? -1 : 0;
            Codes.two(8, k, 1000, 0, above);
            int equal = k == 0 || k == 3 || k == 5 ? -1 : 0;
            Codes.two(8, k, 1000, 1000, equal);
        }
    }

    @Holds("8 x y become -1 if x = (k 0), not = (1), < (2), <= (3), > (4), >= (5) y")
    static void kBelow0OrAbove5IsNotRight() {
        for (int number = 8; number <= 9; number++) {
            for (int k : new int[] {-1, 6, MIN, MAX}) {
                Codes.wrong(number + " " + k, 0, 1, 0, 2, number, k, 16, 0);
            }
            for (int k = 0; k <= 5; k++) {
                Codes.right(number + " " + k, 0, 1, 0, 2, number, k, 16, 0);
            }
        }
    }

    @Holds("8 x y become -1")
    static void ofTheTwoOneIsLeft() {
        Codes.ends("8 above another", Codes.of(0, 9, 0, 1, 0, 2, 8, 2, 14, 0, 16, 0), 9);
        Codes.wrong("8 and two 14", 0, 1, 0, 2, 8, 2, 14, 0, 14, 0, 17, 0);
        Codes.wrong("8 with one value", 0, 1, 8, 0, 17, 0);
    }

    @Holds("9 x y become y")
    static void yIsKeptBelow() {
        for (int[] p : PAIRS) {
            for (int k = 0; k <= 5; k++) {
                String what = "9 " + k + " on " + p[0] + " " + p[1];
                Codes.ends(what + " and 14", Codes.of(0, p[0], 0, p[1], 9, k, 14, 0, 16, 0), p[1]);
                Codes.ends(what + " and 14, locals", Codes.ofLocals(p[0], p[1], 1, 0, 1, 1, 9, k, 14, 0, 16, 0), p[1]);
                Codes.ends(what + " and 14, the second made",
                    Codes.ofLocals(p[0], ~p[1], 1, 0, 1, 1, 6, 0, 9, k, 14, 0, 16, 0), p[1]);
                Codes.ends(what + " and 14, the first made",
                    Codes.ofLocals(~p[0], p[1], 1, 0, 6, 0, 1, 1, 9, k, 14, 0, 16, 0), p[1]);
            }
        }
    }

    @Holds("and on top of it what 8 with this k makes of x y.")
    static void onTopIsWhat8Makes() {
        for (int[] p : PAIRS) {
            for (int k = 0; k <= 5; k++) {
                int value = holds(k, p) ? -1 : 0;
                Codes.two(9, k, p[0], p[1], value);
                Codes.ends("y less what 9 " + k + " makes of " + p[0] + " " + p[1],
                    Codes.ofLocals(p[0], p[1], 1, 0, 1, 1, 9, k, 7, 1, 16, 0), p[1] - value);
            }
        }
    }

    @Holds("9 x y become y, and on top of it")
    static void theRowIsAsLongAsBefore() {
        Codes.right("9 and two 14", 0, 1, 0, 2, 9, 2, 14, 0, 14, 0, 17, 0);
        Codes.wrong("9 and three 14", 0, 1, 0, 2, 9, 2, 14, 0, 14, 0, 14, 0, 17, 0);
        Codes.wrong("9 with one value", 0, 1, 9, 0, 17, 0);
        Codes.ends("the value below stays",
            Codes.ofLocals(5, 6, 0, 9, 1, 0, 1, 1, 9, 2, 14, 0, 14, 0, 16, 0), 9);
    }

    @Holds("9 x y become y, and on top of it what 8 with this k makes of x y.")
    static void aChainOfComparisons() {
        Codes.ends("1 < 2 < 3", Codes.of(0, 1, 0, 2, 9, 2, 11, 0, 0, 3, 8, 2, 16, 0, 13, 0, 14, 0, 0, 0, 16, 0), -1);
        Codes.ends("1 < 2 < 2", Codes.of(0, 1, 0, 2, 9, 2, 11, 0, 0, 2, 8, 2, 16, 0, 13, 0, 14, 0, 0, 0, 16, 0), 0);
        Codes.ends("2 < 2 < 3", Codes.of(0, 2, 0, 2, 9, 2, 11, 0, 0, 3, 8, 2, 16, 0, 13, 0, 14, 0, 0, 0, 16, 0), 0);
    }
}
