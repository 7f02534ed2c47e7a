/** Instructions 10 to 13 and 15 to 18. */
@Heading("Terms")
final class SteeringTest {
    private static final int[] TOPS = {0, 1, -1, 2, 256, Codes.MIN, Codes.MAX};

    private SteeringTest() {
    }

    public static void main(String[] args) {
        Sentences.holdAll(SteeringTest.class);
    }

    /** Where a 11 or a 12 goes with this top: 20 at its label, else 10. */
    private static void goes(int number, int top, int value) {
        String what = number + " on " + top;
        Codes.ends(what, Codes.of(0, top, number, 5, 0, 10, 16, 0, 13, 5, 0, 20, 16, 0), value);
        Codes.ends(what + ", a local",
            Codes.ofLocals(top, 0, 1, 0, number, 5, 0, 10, 16, 0, 13, 5, 0, 20, 16, 0), value);
        Codes.ends(what + ", a negative",
            Codes.ofLocals(-top, 0, 1, 0, 5, 0, number, 5, 0, 10, 16, 0, 13, 5, 0, 20, 16, 0), value);
        Codes.ends(what + ", turned",
            Codes.ofLocals(~top, 0, 1, 0, 6, 0, number, 5, 0, 10, 16, 0, 13, 5, 0, 20, 16, 0), value);
        Codes.ends(what + ", a value below", Codes.ofLocals(top, 6, 1, 1, 1, 0, number, 5, 0, 10, 7, 0, 16, 0,
            13, 5, 0, 20, 7, 0, 16, 0), value + 6);
    }

    @Holds("10 the code goes on at label k.")
    static void forwardsAndBack() {
        Codes.ends("10", Codes.of(10, 1, 13, 0, 0, 7, 16, 0, 13, 1, 10, 0), 7);
        Codes.ends("10 with values",
            Codes.ofLocals(3, 4, 1, 0, 1, 1, 10, 1, 13, 0, 7, 1, 16, 0, 13, 1, 10, 0), -1);
        Codes.ends("10 to the next instruction", Codes.of(0, 7, 10, 0, 13, 0, 16, 0), 7);
    }

    @Holds("10 the code goes on at label k.")
    static void overAllOf400Instructions() {
        RowCode x = Codes.of(10, 99);
        Codes.add(x, 13, 0, 0, 8, 16, 0);
        Codes.addTimes(x, 394, 0, 1);
        Codes.add(x, 13, 99);
        Due.same("add number 400", x.add(10, 0), 400);
        Codes.ends("10 over a long way", x, 8);
    }

    @Holds("10 the code goes on at label k.")
    static void toEachOfThe100Labels() {
        RowCode x = new RowCode();
        for (int label = 99; label >= 0; label--) {
            Codes.add(x, 10, label, 17, 0, 13, label);
        }
        Codes.add(x, 0, 7, 16, 0);
        Codes.ends("10 to one label behind the other", x, 7);
    }

    @Holds("11 the top goes, and if it was 0, it goes on at label k")
    static void elevenGoesFor0Alone() {
        for (int top : TOPS) {
            goes(11, top, top == 0 ? 20 : 10);
        }
    }

    @Holds("11 the top goes, and if it was 0, it goes on at label k")
    static void elevenTakesTheTopEitherWay() {
        Codes.wrong("11 and an end on its way on", 0, 1, 11, 5, 16, 0, 13, 5, 17, 0);
        Codes.wrong("11 and an end at its label", 0, 1, 11, 5, 17, 0, 13, 5, 16, 0);
        Codes.wrong("11 with an empty row", 11, 5, 13, 5, 17, 0);
    }

    @Holds("12 likewise if it wasn't 0.")
    static void twelveGoesForAllBut0() {
        for (int top : TOPS) {
            goes(12, top, top != 0 ? 20 : 10);
        }
    }

    @Holds("12 likewise if it wasn't 0.")
    static void twelveTakesTheTopEitherWay() {
        Codes.wrong("12 and an end on its way on", 0, 1, 12, 5, 16, 0, 13, 5, 17, 0);
        Codes.wrong("12 and an end at its label", 0, 1, 12, 5, 17, 0, 13, 5, 16, 0);
        Codes.wrong("12 with an empty row", 12, 5, 13, 5, 17, 0);
    }

    @Holds("11 the top goes, and if it was 0, it goes on at label k; 12 likewise if it wasn't 0.")
    static void toALabelThatComesNextTheTopGoesTooAndNoOther() {
        for (int number = 11; number <= 12; number++) {
            for (int top : TOPS) {
                String what = number + " on " + top + " to the next instruction";
                Codes.ends(what, Codes.ofLocals(5, top, 1, 0, 1, 1, number, 0, 13, 0, 16, 0), 5);
                Codes.ends(what + ", a 10 ahead",
                    Codes.ofLocals(4, 5, 1, 0, 1, 1, 0, top, 10, 1, 13, 1, number, 0, 13, 0, 16, 0), 5);
                Codes.ends(what + ", a 10 between",
                    Codes.ofLocals(5, top, 1, 0, 1, 1, number, 0, 10, 0, 13, 0, 16, 0), 5);
            }
        }
    }

    @Holds("11 the top goes, and if it was 0, it goes on at label k; 12 likewise if it wasn't 0.")
    static void aMadeValueBelowIsThereOnBothWays() {
        for (int top : TOPS) {
            int[] code = {1, 0, 1, 1, 7, 0, 1, 0, 6, 0, 11, 0, 6, 0, 10, 0, 0, 0, 13, 0, 16, 0};
            Codes.ends("11 on " + top, Codes.ofLocals(~top, 1, code), top == 0 ? 0 : ~(~top + 1));
            code[10] = 12;
            Codes.ends("12 on " + top, Codes.ofLocals(~top, 1, code), top != 0 ? ~top + 1 : -1);
        }
    }

    @Holds("13 LABEL k (0 .. 99) is here.")
    static void labelsFrom0To99AreRight() {
        for (int label : new int[] {0, 1, 98, 99}) {
            Codes.right("label " + label, 13, label, 17, 0);
            for (int number = 10; number <= 12; number++) {
                Codes.right(number + " to label " + label, 0, 1, number, label, 0, 1, 14, 0, 13, label, 17, 0);
            }
        }
    }

    @Holds("13 LABEL k (0 .. 99) is here.")
    static void aLabelBelow0OrAbove99IsNotRight() {
        for (int label : new int[] {-1, 100, Codes.MIN, Codes.MAX}) {
            Codes.wrong("label " + label, 13, label, 17, 0);
            Codes.wrong("10 to label " + label, 10, label, 13, label, 17, 0);
        }
    }

    @Holds("13 LABEL k (0 .. 99) is here.")
    static void aLabelLeavesTheRowAsItIs() {
        Codes.ends("a label between", Codes.ofLocals(7, 2, 1, 0, 13, 3, 1, 1, 13, 4, 7, 1, 13, 5, 16, 0), 5);
    }

    @Holds("15 one fuel is spent.")
    static void each15SpendsOneWhateverItsArgument() {
        RowCode x = Codes.of(15, 0, 15, 7, 15, -1, 15, Codes.MIN, 15, Codes.MAX, 17, 0);
        Due.same("run(20)", x.run(20), 4);
        Due.same("fuel()", x.fuel(), 15);
    }

    @Holds("15 one fuel is spent.")
    static void theLastFuelCanBeSpentAndNoMore() {
        RowCode x = Codes.of(15, 0, 17, 0);
        Due.same("run(1)", x.run(1), 4);
        Due.same("fuel()", x.fuel(), 0);
        Due.same("run(0)", x.run(0), 1);
        Due.same("fuel() behind run(0)", x.fuel(), 0);
    }

    @Holds("15 one fuel is spent.")
    static void nothingButA15Spends() {
        RowCode x = Codes.of(0, 1, 2, 0, 1, 0, 3, 0, 0, 5, 4, 0, 0, 1, 5, 0, 6, 0, 0, 2, 7, 0, 0, 3, 8, 2, 0, 4, 9, 2,
            11, 1, 13, 1, 18, 0, 12, 2, 0, 1, 14, 0, 0, 1, 12, 3, 13, 3, 10, 4, 13, 4, 14, 0, 13, 2, 0, 1, 0, 2, 19, 0,
            0, 1, 0, 2, 20, 0, 17, 0);
        Due.same("run(0)", x.run(0), 4);
        Due.same("run(9)", x.run(9), 4);
        Due.same("fuel()", x.fuel(), 9);
    }

    @Holds("16 the END: the top is the value.")
    static void theTopOfSeveralIsTheValue() {
        Codes.ends("an end with three", Codes.of(0, 1, 0, 2, 0, 3, 16, 0), 3);
        Codes.ends("an end with one", Codes.of(0, 1, 16, 0), 1);
        RowCode x = new RowCode();
        Codes.addTimes(x, 59, 0, 1);
        Codes.add(x, 0, 60, 16, 0);
        Codes.ends("an end with 60", x, 60);
    }

    @Holds("16 the END: the top is the value.")
    static void anEndNeedsAValue() {
        Codes.wrong("an end with an empty row", 16, 0);
        Codes.wrong("an end when the only one went", 0, 1, 14, 0, 16, 0);
    }

    @Holds("16 the END: the top is the value.")
    static void nothingBehindAnEndIsDone() {
        RowCode x = Codes.of(0, 1, 16, 0, 0, 5, 2, 0, 17, 0);
        Codes.ends("an end with more behind", x, 1);
        Due.same("local(0)", x.local(0), 0);
    }

    @Holds("17 STOP.")
    static void nothingBehindAStopIsDone() {
        RowCode x = Codes.of(17, 0, 0, 5, 2, 0, 0, 1, 16, 0);
        Due.same("run(0)", x.run(0), 4);
        Due.same("local(0)", x.local(0), 0);
        Due.same("value()", x.value(), 0);
    }

    @Holds("17 STOP.")
    static void aStopNeedsNoValue() {
        Codes.right("a stop with an empty row", 17, 0);
        Codes.right("a stop with a value", 0, 1, 17, 0);
    }

    @Holds("18 when the top is k, it goes, and the code goes on at the label of the next instruction")
    static void itGoesForJustThatTop() {
        for (int k : TOPS) {
            for (int top : TOPS) {
                String what = "18 " + k + " on " + top;
                int value = top == k ? 50 : top;
                Codes.ends(what, Codes.of(0, 50, 0, top, 18, k, 12, 99, 16, 0, 13, 99, 16, 0), value);
                Codes.ends(what + ", a local",
                    Codes.ofLocals(top, 50, 1, 1, 1, 0, 18, k, 12, 99, 16, 0, 13, 99, 16, 0), value);
                Codes.ends(what + ", made",
                    Codes.ofLocals(~top, 50, 1, 1, 1, 0, 6, 0, 18, k, 12, 99, 16, 0, 13, 99, 16, 0), value);
            }
        }
    }

    @Holds("18 when the top is k, it goes, and the code goes on at the label of the next instruction")
    static void ofSeveralTheOneThatFitsGoes() {
        for (int value : new int[] {1, 2, 3, 4, Codes.MIN, 0}) {
            int due = value == 1 ? 11 : value == 2 ? 22 : value == Codes.MIN ? 33 : value + 100;
            Codes.ends("three 18 on " + value, Codes.ofLocals(value, 0, 1, 0, 18, 1, 12, 1, 18, 2, 12, 2,
                18, Codes.MIN, 12, 3, 0, 100, 7, 0, 16, 0, 13, 1, 0, 11, 16, 0, 13, 2, 0, 22, 16, 0,
                13, 3, 0, 33, 16, 0), due);
        }
    }

    @Holds("18 when the top is k, it goes")
    static void eighteenNeedsATop() {
        Codes.wrong("18 with an empty row", 18, 1, 12, 0, 13, 0, 17, 0);
        Codes.wrong("18 of the only one and an end at its label", 0, 1, 18, 1, 12, 0, 17, 0, 13, 0, 16, 0);
    }

    @Holds("(which must be a 12; nothing is looked at for that)")
    static void whatIsNo12BehindAn18IsNotRight() {
        Codes.right("18 and a 12", 0, 1, 18, 1, 12, 0, 14, 0, 13, 0, 17, 0);
        Codes.wrong("18 and a 11", 0, 1, 18, 1, 11, 0, 14, 0, 13, 0, 17, 0);
        Codes.wrong("18 and a 10", 0, 1, 18, 1, 10, 0, 14, 0, 13, 0, 17, 0);
        Codes.wrong("18 and a 13", 0, 1, 18, 1, 13, 1, 12, 0, 14, 0, 13, 0, 17, 0);
        Codes.wrong("18 and an 18", 0, 1, 18, 1, 18, 1, 12, 0, 14, 0, 13, 0, 17, 0);
        Codes.wrong("18 and a 15", 0, 1, 18, 1, 15, 0, 12, 0, 14, 0, 13, 0, 17, 0);
        Codes.wrong("18 and nothing", 0, 1, 17, 0, 18, 1);
    }

    @Holds("(which must be a 12; nothing is looked at for that)")
    static void the12TakesNothingAndGoesAboveA0Too() {
        Codes.ends("18 above a 0", Codes.of(0, 0, 0, 4, 18, 4, 12, 1, 17, 0, 13, 1, 16, 0), 0);
        Codes.ends("18 above a local of 0", Codes.ofLocals(0, 4, 1, 0, 1, 1, 18, 4, 12, 1, 17, 0, 13, 1, 16, 0), 0);
        Codes.ends("18 of a 0 above a 0", Codes.of(0, 0, 0, 0, 18, 0, 12, 1, 17, 0, 13, 1, 16, 0), 0);
        Codes.ends("18 with nothing below", Codes.of(0, 4, 18, 4, 12, 1, 17, 0, 13, 1, 0, 6, 16, 0), 6);
    }

    @Holds("else it stays, and the next one is passed over.")
    static void whenItDoesNotFitTheRowIsAsItWas() {
        Codes.ends("18 that does not fit", Codes.of(0, 1, 0, 5, 18, 4, 12, 1, 7, 1, 16, 0, 13, 1, 16, 0), -4);
        Codes.ends("18 that does not fit a local",
            Codes.ofLocals(1, 5, 1, 0, 1, 1, 18, 4, 12, 1, 7, 1, 16, 0, 13, 1, 16, 0), -4);
        Codes.ends("18 that does not fit the only one", Codes.of(0, 5, 18, 4, 12, 1, 16, 0, 13, 1, 17, 0), 5);
    }
}
