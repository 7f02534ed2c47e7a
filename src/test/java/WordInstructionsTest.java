/** Instructions 3, 4, 19 and 20. */
@Heading("Terms")
final class WordInstructionsTest {
    private static final int MIN = Codes.MIN;
    private static final int MAX = Codes.MAX;
    private static final int[] NO_ADDRESSES = {-1, 64, MIN, MAX};
    // Each pair is an address and a byte that together tell no word.
    private static final int[][] NO_BYTES = {{64, 0}, {0, -1}, {0, 256}, {63, 4}, {-1, 3}, {65, -4}};

    private WordInstructionsTest() {
    }

    public static void main(String[] args) {
        Sentences.holdAll(WordInstructionsTest.class);
    }

    private static void allWordsAre0(String when, RowCode x) {
        for (int i = 0; i < 64; i++) {
            Due.same("word(" + i + ") " + when, x.word(i), 0);
        }
    }

    /** What 19 makes of an address and a byte, told as numbers, locals, and made values. */
    private static void findsByte(int address, int at, int wordThere, int value) {
        int[][] codes = {{0, address, 0, at, 19, 0, 16, 0}, {1, 0, 1, 1, 19, 0, 16, 0},
            {1, 0, 0, at, 19, 0, 16, 0}, {1, 0, 1, 1, 0, 9, 7, 8, 0, 9, 7, 8, 19, 0, 16, 0}};
        for (int[] code : codes) {
            RowCode x = Codes.ofLocals(address, at, code);
            x.put(wordThere, 0x81F27364);
            Codes.ends("19 on " + address + " " + at, x, value);
        }
    }

    /** What 20 leaves of a word 0x55555555, by each of the same ways. */
    private static void laysByte(int v, int address, int at, int wordThere, int left) {
        int[][] codes = {{0, v, 0, address, 0, at, 20, 0, 17, 0}, {0, v, 1, 0, 1, 1, 20, 0, 17, 0},
            {0, v, 5, 0, 5, 0, 1, 0, 0, at, 20, 0, 17, 0}, {1, 2, 1, 0, 1, 1, 0, 9, 7, 8, 0, 9, 7, 8, 20, 0, 17, 0}};
        for (int[] code : codes) {
            RowCode x = Codes.ofLocals(address, at, code);
            x.set(2, v);
            for (int i = 0; i < 64; i++) {
                x.put(i, 0x55555555);
            }
            String what = "20 on " + v + " " + address + " " + at;
            Due.same("run(0) of " + what, x.run(0), 4);
            for (int i = 0; i < 64; i++) {
                Due.same("word(" + i + ") behind " + what, x.word(i), i == wordThere ? left : 0x55555555);
            }
        }
    }

    private static void tellsNoWord(int address, int at) {
        String what = " on " + address + " " + at;
        Due.same("run(0) of 19" + what, Codes.of(0, address, 0, at, 19, 0, 16, 0).run(0), 2);
        Due.same("run(0) of 19" + what + ", locals", Codes.ofLocals(address, at, 1, 0, 1, 1, 19, 0, 16, 0).run(0), 2);
        RowCode x = Codes.of(0, 1, 0, address, 0, at, 20, 0, 17, 0);
        Due.same("run(0) of 20" + what, x.run(0), 2);
        allWordsAre0("behind 20" + what, x);
        RowCode y = Codes.ofLocals(address, at, 0, 1, 1, 0, 1, 1, 20, 0, 17, 0);
        Due.same("run(0) of 20" + what + ", locals", y.run(0), 2);
        allWordsAre0("behind 20" + what + ", locals", y);
    }

    @Holds("3 the top, an ADDRESS, becomes the word there.")
    static void wordsFrom0To63AreRead() {
        for (int address = 0; address < 64; address++) {
            for (int[] code : new int[][] {{0, address, 3, 0, 16, 0}, {1, 0, 3, 0, 16, 0}, {1, 1, 6, 0, 3, 0, 16, 0}}) {
                RowCode x = Codes.ofLocals(address, ~address, code);
                x.put(address, 500 + address);
                Codes.ends("3 at " + address, x, 500 + address);
            }
        }
    }

    @Holds("3 the top, an ADDRESS, becomes the word there.")
    static void noWordIsReadBelow0OrAbove63() {
        for (int address : NO_ADDRESSES) {
            Due.same("run(0) of 3 at " + address, Codes.of(0, address, 3, 0, 16, 0).run(0), 2);
            Due.same("run(0) of 3 at local " + address, Codes.ofLocals(address, 0, 1, 0, 3, 0, 16, 0).run(0), 2);
        }
    }

    @Holds("3 the top, an ADDRESS, becomes the word there.")
    static void aWordIsReadWhereThe3StandsAndNotLater() {
        Codes.ends("3 ahead of 4", Codes.of(0, 9, 3, 0, 0, 5, 0, 9, 4, 0, 0, 9, 3, 0, 7, 1, 16, 0), -5);
    }

    @Holds("4 the top, an address, gets the value below it")
    static void wordsFrom0To63AreWritten() {
        for (int address = 0; address < 64; address++) {
            int[][] codes = {{0, 77, 0, address, 4, 0, 17, 0}, {0, 77, 1, 0, 4, 0, 17, 0},
                {0, 77, 1, 1, 6, 0, 4, 0, 17, 0}, {1, 1, 1, 0, 0, 77, 2, 1, 14, 0, 1, 1, 1, 0, 4, 0, 17, 0}};
            for (int[] code : codes) {
                RowCode x = Codes.ofLocals(address, ~address, code);
                Due.same("run(0) of 4 at " + address, x.run(0), 4);
                for (int i = 0; i < 64; i++) {
                    Due.same("word(" + i + ") behind 4 at " + address, x.word(i), i == address ? 77 : 0);
                }
            }
        }
    }

    @Holds("4 the top, an address, gets the value below it")
    static void noWordIsWrittenBelow0OrAbove63() {
        for (int address : NO_ADDRESSES) {
            RowCode x = Codes.ofLocals(address, 77, 0, 5, 2, 4, 1, 1, 1, 0, 4, 0, 0, 6, 2, 4, 17, 0);
            Due.same("run(0) of 4 at " + address, x.run(0), 2);
            Due.same("local(4): what stands ahead is done, what stands behind is not", x.local(4), 5);
            allWordsAre0("behind 4 at " + address, x);
        }
    }

    @Holds("4 the top, an address, gets the value below it")
    static void theLeastAndTheGreatestValueAreWritten() {
        for (int value : new int[] {MIN, MAX, -1, 0}) {
            RowCode x = Codes.of(0, value, 0, 63, 4, 0, 0, 63, 3, 0, 16, 0);
            x.put(63, 5);
            Codes.ends("4 of " + value, x, value);
        }
    }

    @Holds("both go.")
    static void theValueBelowTheTwoIsTheTopThen() {
        Codes.ends("4 above another", Codes.of(0, 9, 0, 1, 0, 2, 4, 0, 16, 0), 9);
        Codes.wrong("4 of the only two and an end", 0, 1, 0, 2, 4, 0, 16, 0);
        Codes.wrong("4 with one value", 0, 1, 4, 0, 17, 0);
    }

    @Holds("19 x y become byte y of the words from address x on")
    static void theBytesOfAWordAndOfTheNextOnes() {
        findsByte(5, 0, 5, 0x64);
        findsByte(5, 1, 5, 0x73);
        findsByte(5, 2, 5, 0xF2);
        findsByte(5, 3, 5, 0x81);
        findsByte(5, 4, 6, 0x64);
        findsByte(5, 7, 6, 0x81);
        findsByte(5, 8, 7, 0x64);
    }

    @Holds("19 x y become byte y of the words from address x on")
    static void theFirstAndTheLastByteOfAllWords() {
        findsByte(0, 0, 0, 0x64);
        findsByte(63, 3, 63, 0x81);
        findsByte(0, 255, 63, 0x81);
        findsByte(0, 252, 63, 0x64);
    }

    @Holds("19 x y become byte y of the words from address x on")
    static void oneByteFartherThanTheFirstOrTheLastIsNone() {
        for (int[] none : NO_BYTES) {
            tellsNoWord(none[0], none[1]);
        }
    }

    @Holds("19 x y become byte")
    static void ofTheTwoOneByteIsLeft() {
        Codes.ends("19 above another", Codes.of(0, 9, 0, 1, 0, 2, 19, 0, 14, 0, 16, 0), 9);
        Codes.wrong("19 and two 14", 0, 1, 0, 2, 19, 0, 14, 0, 14, 0, 17, 0);
        Codes.wrong("19 with one value", 0, 1, 19, 0, 17, 0);
    }

    @Holds("(word x + (y shifted right by 2, keeping its sign; exactly)")
    static void aByteBelow0IsInAWordAhead() {
        findsByte(1, -4, 0, 0x64);
        findsByte(1, -1, 0, 0x81);
        findsByte(2, -5, 0, 0x81);
        findsByte(63, -252, 0, 0x64);
        findsByte(63, -249, 0, 0x81);
        tellsNoWord(63, -253);
    }

    @Holds("(word x + (y shifted right by 2, keeping its sign; exactly)")
    static void onlyTheSumMustBeAnAddress() {
        findsByte(64, -1, 63, 0x81);
        findsByte(64, -4, 63, 0x64);
        findsByte(-1, 4, 0, 0x64);
        findsByte(-1, 7, 0, 0x81);
        laysByte(1, 64, -1, 63, 0x01555555);
        laysByte(1, -1, 4, 0, 0x55555501);
    }

    @Holds("(word x + (y shifted right by 2, keeping its sign; exactly)")
    static void theLeastAndTheGreatestByte() {
        findsByte(536870912, MIN, 0, 0x64);
        findsByte(536870912 + 63, MIN + 3, 63, 0x81);
        findsByte(-536870911, MAX, 0, 0x81);
        findsByte(-536870911 + 63, MAX - 3, 63, 0x64);
        laysByte(1, 536870912, MIN, 0, 0x55555501);
        laysByte(1, -536870911, MAX, 0, 0x01555555);
        tellsNoWord(536870911, MIN);
        tellsNoWord(536870912 + 64, MIN);
        tellsNoWord(-536870912, MAX);
        tellsNoWord(-536870911 + 64, MAX);
    }

    @Holds("(word x + (y shifted right by 2, keeping its sign; exactly)")
    static void aSumBeyond32BitsIsNoAddress() {
        for (int[] none : new int[][] {{MAX, MAX}, {MIN, MIN}, {MAX, 4}, {MIN, -1}, {MAX, MIN}, {MIN, MAX}, {MAX, 0},
            {MIN, 0}, {MAX, -4}, {MIN, 4}}) {
            tellsNoWord(none[0], none[1]);
        }
    }

    @Holds("of its four bytes the one that the lowest two bits of y tell")
    static void eachOfTheFourForYAboveAndBelow0() {
        int[] bytes = {0x64, 0x73, 0xF2, 0x81};
        for (int y = -8; y < 8; y++) {
            findsByte(10, y, 10 + Math.floorDiv(y, 4), bytes[Math.floorMod(y, 4)]);
        }
    }

    @Holds("of its four bytes the one that the lowest two bits of y tell")
    static void aByteIs0To255AndNeverBelow0() {
        for (int value : new int[] {0, 1, 127, 128, 255}) {
            for (int at = 0; at < 4; at++) {
                RowCode x = Codes.ofLocals(3, at, 1, 0, 1, 1, 19, 0, 16, 0);
                x.put(3, value << 8 * at | ~(255 << 8 * at) & 0xA5A5A5A5);
                Codes.ends("19 of a byte of " + value, x, value);
            }
        }
    }

    @Holds("the lowest eight bits being byte 0)")
    static void byte0IsTheLowestAndByte3TheHighest() {
        RowCode x = Codes.ofLocals(0, 0, 1, 0, 1, 1, 19, 0, 16, 0);
        x.put(0, 0x04030201);
        for (int at = 0; at < 4; at++) {
            x.set(1, at);
            Codes.ends("byte " + at, x, at + 1);
        }
    }

    @Holds("20 v x y go")
    static void allThreeGo() {
        Codes.ends("20 above another", Codes.of(0, 9, 0, 1, 0, 2, 0, 3, 20, 0, 16, 0), 9);
        Codes.wrong("20 of the only three and an end", 0, 1, 0, 2, 0, 3, 20, 0, 16, 0);
        Codes.wrong("20 with two values", 0, 1, 0, 2, 20, 0, 17, 0);
        RowCode x = Codes.ofLocals(-2, -5, 0, 9, 0, 300, 1, 0, 5, 0, 1, 1, 5, 0, 20, 0, 0, 2, 0, 5, 19, 0, 7, 0,
            16, 0);
        Codes.ends("20 and 19 with made values, another below", x, 53);
        Due.same("word(3)", x.word(3), 11264);
    }

    @Holds("and that byte becomes the lowest eight bits of v.")
    static void theOtherThreeBytesStay() {
        laysByte(1, 7, 0, 7, 0x55555501);
        laysByte(1, 7, 1, 7, 0x55550155);
        laysByte(1, 7, 2, 7, 0x55015555);
        laysByte(1, 7, 3, 7, 0x01555555);
        laysByte(1, 7, -1, 6, 0x01555555);
        laysByte(1, 7, 5, 8, 0x55550155);
    }

    @Holds("and that byte becomes the lowest eight bits of v.")
    static void theFirstAndTheLastByteOfAllWordsAreWritten() {
        laysByte(2, 0, 0, 0, 0x55555502);
        laysByte(2, 0, 255, 63, 0x02555555);
        laysByte(2, 63, 3, 63, 0x02555555);
        laysByte(2, 63, -252, 0, 0x55555502);
    }

    @Holds("and that byte becomes the lowest eight bits of v.")
    static void ofAVBeyondEightBitsOnlyTheLowestCount() {
        laysByte(255, 7, 1, 7, 0x5555FF55);
        laysByte(256, 7, 1, 7, 0x55550055);
        laysByte(300, 7, 1, 7, 0x55552C55);
        laysByte(-1, 7, 3, 7, 0xFF555555);
        laysByte(-256, 7, 3, 7, 0x00555555);
        laysByte(MIN, 7, 0, 7, 0x55555500);
        laysByte(MAX, 7, 0, 7, 0x555555FF);
    }

    @Holds("and that byte becomes the lowest eight bits of v.")
    static void oneByteFartherThanTheFirstOrTheLastIsNotWritten() {
        for (int[] none : NO_BYTES) {
            tellsNoWord(none[0], none[1]);
        }
    }
}
