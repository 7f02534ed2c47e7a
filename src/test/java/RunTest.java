@Heading("Promise 5: run")
final class RunTest {
    private static final int[] OTHER_FUELS = {-1, 20001, Codes.MIN, Codes.MAX};
    // It spends one, counts in local 0, lays 6 at word 0, and ends with 44.
    private static final int[] COUNTING = {15, 0, 1, 0, 0, 1, 7, 0, 2, 0, 0, 6, 0, 0, 4, 0, 0, 44, 16, 0};

    private RunTest() {
    }

    public static void main(String[] args) {
        Sentences.holdAll(RunTest.class);
    }

    @Holds("The code as it is runs")
    static void aRunNeedsNoBuild() {
        RowCode x = Codes.of(0, 1, 16, 0);
        Due.same("run(0) without a build", x.run(0), 0);
        Due.same("value()", x.value(), 1);
    }

    @Holds("The code as it is runs")
    static void theCodeThatIsThereNowRunsNotTheOneOfABuildOrRunBefore() {
        RowCode x = Codes.of(0, 1, 16, 0);
        Due.yes("build()", x.build());
        Due.same("run(0)", x.run(0), 0);
        x.clear();
        Due.same("run(0) of nothing", x.run(0), -1);
        Codes.add(x, 0, 2, 16, 0);
        Due.same("run(0) of another code", x.run(0), 0);
        Due.same("value() of another code", x.value(), 2);
        x.clear();
        Codes.add(x, 0, 3);
        Due.same("run(0) of half a code", x.run(0), -1);
        Codes.add(x, 5, 0, 16, 0);
        Due.same("run(0) of the whole code", x.run(0), 0);
        Due.same("value() of the whole code", x.value(), -3);
        Codes.add(x, 13, 0, 17, 0);
        Due.same("run(0) with more behind", x.run(0), 0);
        Due.same("value() with more behind", x.value(), -3);
    }

    @Holds("with so much fuel (0 .. 20000)")
    static void aFuelOf0IsEnoughForACodeThatSpendsNone() {
        Due.same("run(0)", Codes.of(17, 0).run(0), 4);
        Due.same("run(0) of a 15", Codes.of(15, 0, 17, 0).run(0), 1);
    }

    @Holds("with so much fuel (0 .. 20000)")
    static void aFuelOf20000IsGivenInFull() {
        RowCode round = Codes.of(13, 0, 15, 0, 1, 0, 0, 1, 7, 0, 2, 0, 10, 0);
        Due.same("run(20000) of a round without end", round.run(20000), 1);
        Due.same("how often it went round", round.local(0), 20000);
        RowCode once = Codes.of(15, 0, 17, 0);
        Due.same("run(20000)", once.run(20000), 4);
        Due.same("fuel()", once.fuel(), 19999);
    }

    @Holds("with so much fuel (0 .. 20000)")
    static void aFuelOf20000IsEnoughForALongCode() {
        RowCode x = Codes.of(13, 0, 15, 0);
        Codes.addTimes(x, 99, 1, 0, 0, 1, 7, 0, 2, 0);
        Due.same("add number 399", x.add(10, 0), 399);
        Due.same("run(20000) of a long round", x.run(20000), 1);
        Due.same("local(0) behind it", x.local(0), 99 * 20000);
    }

    @Holds("the row empty")
    static void aRunFindsNothingThatAnotherOneLeftOnItsRow() {
        RowCode x = Codes.of(0, 1, 0, 2, 0, 3, 17, 0);
        for (int i = 0; i < 40; i++) {
            Due.same("run " + i + " that leaves three", x.run(0), 4);
        }
        x.clear();
        Codes.add(x, 14, 0, 17, 0);
        Due.same("run(0) of a code that takes what was left", x.run(0), -1);
        x.clear();
        Codes.addTimes(x, 60, 0, 1);
        x.add(17, 0);
        for (int i = 0; i < 5; i++) {
            Due.same("run " + i + " that leaves sixty", x.run(0), 4);
        }
    }

    @Holds("locals and words as they are")
    static void localsAndWordsGoOnFromRunToRun() {
        RowCode x = Codes.of(1, 0, 0, 1, 7, 0, 2, 0, 0, 7, 3, 0, 1, 0, 7, 0, 0, 7, 4, 0, 0, 7, 3, 0, 16, 0);
        int sum = 0;
        for (int i = 1; i <= 20; i++) {
            sum += i;
            Due.same("run " + i, x.run(0), 0);
            Due.same("value() of run " + i, x.value(), sum);
            Due.same("local(0) behind run " + i, x.local(0), i);
            Due.same("word(7) behind run " + i, x.word(7), sum);
        }
    }

    @Holds("locals and words as they are")
    static void aRunFindsWhatSetAndPutGave() {
        RowCode x = Codes.of(1, 15, 0, 63, 3, 0, 7, 1, 16, 0);
        Due.same("run(0) ahead of set and put", x.run(0), 0);
        Due.same("value() ahead of set and put", x.value(), 0);
        x.set(15, 1000);
        x.put(63, 1);
        Due.same("run(0)", x.run(0), 0);
        Due.same("value()", x.value(), 999);
    }

    @Holds("locals and words as they are")
    static void whatARunDidAheadOfItsFaultStaysDone() {
        int[][] faults = {{15, 0, 17, 0}, {0, 64, 3, 0, 16, 0}, {0, 1, 0, 0, 7, 3, 16, 0}, {17, 0}};
        for (int i = 0; i < faults.length; i++) {
            RowCode x = Codes.of(0, 5, 2, 0, 0, 6, 0, 0, 4, 0);
            Codes.add(x, faults[i]);
            Due.same("run(0)", x.run(0), i + 1);
            Due.state("behind an answer of " + (i + 1), x, 0, 0, new int[] {5}, new int[] {6});
        }
    }

    @Holds("0 it came to an end")
    static void anEndAnswers0() {
        Due.same("run(0)", Codes.of(0, 1, 16, 0).run(0), 0);
        Due.same("run(0) with values below", Codes.of(0, 1, 0, 2, 16, 0).run(0), 0);
        Due.same("run(0) with instructions behind", Codes.of(0, 1, 16, 0, 17, 0).run(0), 0);
    }

    @Holds("1 a 15 came with no fuel")
    static void oneFuelTooFewAnswers1() {
        RowCode x = Codes.of(15, 0, 15, 0, 15, 0, 17, 0);
        Due.same("run(0)", x.run(0), 1);
        Due.same("run(2)", x.run(2), 1);
        Due.same("run(3)", x.run(3), 4);
    }

    @Holds("1 a 15 came with no fuel")
    static void whenTheFuelIsOutAllElseStillGoesOn() {
        RowCode x = Codes.of(15, 0, 0, 5, 2, 0, 1, 0, 16, 0);
        Due.same("run(1)", x.run(1), 0);
        Due.same("value()", x.value(), 5);
        RowCode y = Codes.of(0, 5, 2, 0, 15, 0, 0, 6, 2, 0, 17, 0);
        Due.same("run(0)", y.run(0), 1);
        Due.same("local(0): nothing behind the 15 is done", y.local(0), 5);
    }

    @Holds("2 an address was none (it must be 0 .. 63)")
    static void addressesBelow0AndAbove63Answer2() {
        for (int address : new int[] {-1, 64, Codes.MIN, Codes.MAX}) {
            Due.same("run(0) of 3 at " + address, Codes.of(0, address, 3, 0, 16, 0).run(0), 2);
            Due.same("run(0) of 4 at " + address, Codes.of(0, 1, 0, address, 4, 0, 17, 0).run(0), 2);
            Due.same("run(0) of 19 at " + address, Codes.of(0, address, 0, 0, 19, 0, 16, 0).run(0), 2);
            Due.same("run(0) of 20 at " + address, Codes.of(0, 1, 0, address, 0, 0, 20, 0, 17, 0).run(0), 2);
        }
    }

    @Holds("2 an address was none (it must be 0 .. 63)")
    static void addresses0And63AreThere() {
        for (int address : new int[] {0, 63}) {
            Due.same("run(0) of 3 at " + address, Codes.of(0, address, 3, 0, 16, 0).run(0), 0);
            Due.same("run(0) of 4 at " + address, Codes.of(0, 1, 0, address, 4, 0, 17, 0).run(0), 4);
            Due.same("run(0) of 19 at " + address, Codes.of(0, address, 0, 0, 19, 0, 16, 0).run(0), 0);
            Due.same("run(0) of 20 at " + address, Codes.of(0, 1, 0, address, 0, 0, 20, 0, 17, 0).run(0), 4);
        }
    }

    @Holds("2 an address was none (it must be 0 .. 63)")
    static void anAddressThatIsNoneAnswers2EvenWhenTheWordIsNotUsed() {
        Due.same("run(0) of 3 and 14", Codes.of(0, 64, 3, 0, 14, 0, 17, 0).run(0), 2);
        Due.same("run(0) of 3, 5 and 14", Codes.ofLocals(-1, 0, 1, 0, 3, 0, 5, 0, 14, 0, 17, 0).run(0), 2);
        Due.same("run(0) of 19 and 14", Codes.of(0, 64, 0, 0, 19, 0, 14, 0, 17, 0).run(0), 2);
    }

    @Holds("3 a division by 0")
    static void aDivisionAndARestBy0Answer3() {
        for (int k = 3; k <= 4; k++) {
            for (int x : new int[] {0, 1, -1, Codes.MIN, Codes.MAX}) {
                String what = "run(0) of 7 " + k + " on " + x + " 0";
                Due.same(what, Codes.of(0, x, 0, 0, 7, k, 16, 0).run(0), 3);
                Due.same(what + ", locals", Codes.ofLocals(x, 0, 1, 0, 1, 1, 7, k, 16, 0).run(0), 3);
                Due.same(what + ", a local first", Codes.ofLocals(x, 0, 1, 0, 0, 0, 7, k, 16, 0).run(0), 3);
                Due.same(what + ", made", Codes.ofLocals(x, -1, 1, 0, 1, 1, 6, 0, 7, k, 16, 0).run(0), 3);
            }
        }
    }

    @Holds("3 a division by 0")
    static void aDivisionBy0Answers3EvenWhenItIsNotUsed() {
        for (int k = 3; k <= 4; k++) {
            Due.same("run(0) of 7 " + k + " and 14", Codes.of(0, 1, 0, 0, 7, k, 14, 0, 17, 0).run(0), 3);
            Due.same("run(0) of 7 " + k + ", 5 and 14",
                Codes.ofLocals(1, 0, 1, 0, 1, 1, 7, k, 5, 0, 14, 0, 17, 0).run(0), 3);
        }
    }

    @Holds("3 a division by 0")
    static void onlyADivisionBy0Answers3() {
        for (int k = 0; k <= 10; k++) {
            int answer = k == 3 || k == 4 ? 3 : 0;
            Due.same("run(0) of 7 " + k + " by 0", Codes.of(0, 1, 0, 0, 7, k, 16, 0).run(0), answer);
            Due.same("run(0) of 7 " + k + " on 0 1", Codes.of(0, 0, 0, 1, 7, k, 16, 0).run(0), 0);
        }
    }

    @Holds("4 a STOP.")
    static void aStopAnswers4WithAnyRow() {
        Due.same("run(0) with no value", Codes.of(17, 0).run(0), 4);
        Due.same("run(0) with two values", Codes.of(0, 1, 0, 2, 17, 0).run(0), 4);
        RowCode x = new RowCode();
        Codes.addTimes(x, 60, 0, 1);
        x.add(17, 0);
        Due.same("run(0) with 60 values", x.run(0), 4);
    }

    @Holds("NONE: not right")
    static void aCodeThatIsNotRightAnswersNone() {
        Due.same("run(0) of nothing", new RowCode().run(0), -1);
        Due.same("run(0) of a wrong number", Codes.of(21, 0, 17, 0).run(0), -1);
        Due.same("run(0) of an empty row", Codes.of(14, 0, 17, 0).run(0), -1);
        Due.same("run(0) of a fault that the run would not come to",
            Codes.of(0, 0, 12, 1, 17, 0, 13, 1, 14, 0, 17, 0).run(0), -1);
    }

    @Holds("or another fuel")
    static void aFuelBelow0OrAbove20000AnswersNone() {
        for (int fuel : OTHER_FUELS) {
            Due.same("run(" + fuel + ") of a stop", Codes.of(17, 0).run(fuel), -1);
            Due.same("run(" + fuel + ") of a 15", Codes.of(15, 0, 17, 0).run(fuel), -1);
        }
    }

    @Holds("or another fuel")
    static void anotherFuelAndAWrongCodeAnswerNone() {
        for (int fuel : OTHER_FUELS) {
            Due.same("run(" + fuel + ")", Codes.of(99, 0).run(fuel), -1);
        }
    }

    @Holds("(it is no run then: nothing changes)")
    static void anotherFuelChangesNothing() {
        RowCode x = Codes.of(COUNTING);
        Due.same("run(9)", x.run(9), 0);
        for (int fuel : OTHER_FUELS) {
            x.run(fuel);
            Due.state("behind run(" + fuel + ")", x, 44, 8, new int[] {1}, new int[] {6});
        }
        Due.same("run(9) behind them", x.run(9), 0);
        Due.state("behind run(9)", x, 44, 8, new int[] {2}, new int[] {6});
    }

    @Holds("(it is no run then: nothing changes)")
    static void aRunOfAWrongCodeChangesNothing() {
        RowCode x = Codes.of(COUNTING);
        Due.same("run(9)", x.run(9), 0);
        x.add(13, 100);
        Due.same("run(7) of a wrong code", x.run(7), -1);
        Due.state("behind a wrong code", x, 44, 8, new int[] {1}, new int[] {6});
        x.clear();
        Due.same("run(7) of no code", x.run(7), -1);
        Due.state("behind no code", x, 44, 8, new int[] {1}, new int[] {6});
    }

    @Holds("(it is no run then: nothing changes)")
    static void aRefusedRunAheadOfAnyChangesNothing() {
        RowCode x = Codes.of(COUNTING);
        x.run(20001);
        x.run(-1);
        Due.state("behind refused runs", x, 0, 0, new int[0], new int[0]);
        Due.yes("build()", x.build());
        Due.same("run(1)", x.run(1), 0);
    }
}
