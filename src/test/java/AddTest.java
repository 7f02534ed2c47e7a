@Heading("Promise 2: add")
final class AddTest {
    private AddTest() {
    }

    public static void main(String[] args) {
        Sentences.holdAll(AddTest.class);
    }

    /** 399 times a 15, and a 17 behind them. */
    private static RowCode full() {
        RowCode x = new RowCode();
        Codes.addTimes(x, 399, 15, 0);
        x.add(17, 0);
        return x;
    }

    @Holds("One more instruction")
    static void anInstructionComesBehindTheOthers() {
        RowCode x = Codes.of(0, 3);
        Due.no("build() ahead of its end", x.build());
        x.add(16, 0);
        Due.yes("build() when its end has come", x.build());
        Due.same("run(0)", x.run(0), 0);
        Due.same("value()", x.value(), 3);
    }

    @Holds("One more instruction")
    static void anInstructionBehindABuildAndARunBelongsToTheNextOnes() {
        RowCode x = Codes.of(0, 3, 16, 0);
        Due.yes("build()", x.build());
        Due.same("run(0)", x.run(0), 0);
        Due.same("add(99, 0)", x.add(99, 0), 3);
        Due.no("build() with a number that is none", x.build());
        Due.same("run(0) with a number that is none", x.run(0), -1);
    }

    @Holds("One more instruction")
    static void whatIsNoRightInstructionIsAddedAllTheSame() {
        RowCode x = new RowCode();
        Due.same("add(-1, 0)", x.add(-1, 0), 1);
        Due.same("add(21, 0)", x.add(21, 0), 2);
        Due.same("add(1, 16)", x.add(1, 16), 3);
        Due.same("add(13, 100)", x.add(13, 100), 4);
        Due.same("add(MIN, MIN)", x.add(Codes.MIN, Codes.MIN), 5);
        Due.same("add(MAX, MAX)", x.add(Codes.MAX, Codes.MAX), 6);
        Due.same("add(18, 0)", x.add(18, 0), 7);
    }

    @Holds("(at most 400)")
    static void the400thIsTaken() {
        RowCode x = new RowCode();
        Codes.addTimes(x, 399, 15, 0);
        Due.no("build() of 399 with no end", x.build());
        Due.same("add number 400", x.add(17, 0), 400);
        Due.yes("build() of 400", x.build());
        Due.same("run(399) of 400", x.run(399), 4);
        Due.same("fuel() behind it", x.fuel(), 0);
        Due.same("run(398) of 400", x.run(398), 1);
    }

    @Holds("(at most 400)")
    static void the401stIsNotTaken() {
        RowCode x = full();
        Due.same("add number 401", x.add(99, 0), -1);
        Due.yes("build() behind a refused add", x.build());
        Due.same("run(399) behind a refused add", x.run(399), 4);
        Due.same("fuel() behind a refused add", x.fuel(), 0);
    }

    @Holds("how many there are")
    static void eachAddTellsOneMore() {
        RowCode x = new RowCode();
        for (int i = 1; i <= 400; i++) {
            Due.same("add number " + i, x.add(15, i), i);
        }
    }

    @Holds("how many there are")
    static void countsAnewBehindAClear() {
        RowCode x = Codes.of(15, 0, 17, 0);
        x.clear();
        Due.same("add behind clear", x.add(17, 0), 1);
        Due.same("another one", x.add(17, 0), 2);
    }

    @Holds("NONE when there are too many.")
    static void eachOneBehindThe400thTellsNone() {
        RowCode x = full();
        for (int i = 401; i <= 450; i++) {
            Due.same("add number " + i, x.add(17, 0), -1);
        }
        Due.same("RowCode.NONE", RowCode.NONE, -1);
    }

    @Holds("NONE when there are too many.")
    static void aRefusedWrongInstructionTellsNoneToo() {
        RowCode x = full();
        Due.same("add(-1, 0)", x.add(-1, 0), -1);
        Due.same("add(MIN, MAX)", x.add(Codes.MIN, Codes.MAX), -1);
    }

    @Holds("NONE when there are too many.")
    static void refusedOnesDoNotCountBehindAClear() {
        RowCode x = full();
        x.add(17, 0);
        x.clear();
        Due.same("add behind clear", x.add(17, 0), 1);
        Due.yes("build() of it", x.build());
    }

    @Holds("NONE when there are too many.")
    static void aRefusedAddChangesNothingElse() {
        RowCode x = Codes.of(15, 0, 0, 5, 2, 0, 0, 6, 0, 0, 4, 0, 0, 7, 16, 0);
        Codes.addTimes(x, 392, 17, 0);
        Due.same("run(9)", x.run(9), 0);
        Due.same("add number 401", x.add(17, 0), -1);
        Due.state("behind a refused add", x, 7, 8, new int[] {5}, new int[] {6});
    }
}
