@Heading("Promise 6: value")
final class ValueTest {
    // The answers 1 to 4, each of a run with no fuel.
    private static final int[][] FAULTS = {{15, 0, 17, 0}, {0, 64, 3, 0, 16, 0}, {0, 5, 0, 0, 7, 3, 16, 0}, {17, 0}};

    private ValueTest() {
    }

    public static void main(String[] args) {
        Sentences.holdAll(ValueTest.class);
    }

    private static RowCode endedWith(int value) {
        RowCode x = Codes.of(0, value, 16, 0);
        Due.same("run(0)", x.run(0), 0);
        Due.same("value()", x.value(), value);
        return x;
    }

    @Holds("The value of the latest end")
    static void anEndsValueIsOf32Bits() {
        for (int value : new int[] {0, 1, -1, Codes.MIN, Codes.MAX}) {
            endedWith(value);
        }
    }

    @Holds("The value of the latest end")
    static void ofSeveralEndsTheLatestCounts() {
        RowCode x = endedWith(7);
        x.clear();
        Codes.add(x, 1, 0, 16, 0);
        for (int i = 5; i >= 0; i--) {
            x.set(0, i);
            Due.same("run(0)", x.run(0), 0);
            Due.same("value()", x.value(), i);
        }
    }

    @Holds("The value of the latest end")
    static void itStaysUntilTheNextRun() {
        RowCode x = endedWith(7);
        Due.same("value() once more", x.value(), 7);
        x.clear();
        Due.same("value() behind clear", x.value(), 7);
        x.add(17, 0);
        Due.same("value() behind add", x.value(), 7);
        x.build();
        Due.same("value() behind build", x.value(), 7);
        x.set(0, 1);
        x.put(0, 1);
        Due.same("value() behind set and put", x.value(), 7);
    }

    @Holds("The value of the latest end")
    static void whatIsNoRunLeavesIt() {
        RowCode x = endedWith(7);
        x.run(-1);
        Due.same("value() behind run(-1)", x.value(), 7);
        x.run(20001);
        Due.same("value() behind run(20001)", x.value(), 7);
        x.add(99, 0);
        x.run(0);
        Due.same("value() behind a wrong code", x.value(), 7);
    }

    @Holds("0 when the latest run had none")
    static void itIs0BehindEachRunThatCameToNoEnd() {
        for (int i = 0; i < FAULTS.length; i++) {
            RowCode x = endedWith(-9);
            x.clear();
            Codes.add(x, FAULTS[i]);
            Due.same("run(0)", x.run(0), i + 1);
            Due.same("value() behind an answer of " + (i + 1), x.value(), 0);
            x.run(20001);
            Due.same("value() behind no run", x.value(), 0);
        }
    }

    @Holds("0 when the latest run had none")
    static void itIs0WithValuesOnTheRow() {
        RowCode x = endedWith(-9);
        x.clear();
        Codes.add(x, 0, 3, 0, 4, 17, 0);
        Due.same("run(0)", x.run(0), 4);
        Due.same("value()", x.value(), 0);
    }

    @Holds("or ahead of any.")
    static void itIs0AheadOfAnyRun() {
        Due.same("value() of a new object", new RowCode().value(), 0);
        RowCode x = Codes.of(0, 7, 16, 0);
        Due.same("value() behind add", x.value(), 0);
        x.build();
        Due.same("value() behind build", x.value(), 0);
        x.run(-1);
        Due.same("value() behind no run", x.value(), 0);
    }
}
