@Heading("Promise 7: fuel")
final class FuelTest {
    private FuelTest() {
    }

    public static void main(String[] args) {
        Sentences.holdAll(FuelTest.class);
    }

    private static void leaves(RowCode x, int fuel, int answer, int left) {
        Due.same("run(" + fuel + ")", x.run(fuel), answer);
        Due.same("fuel() behind run(" + fuel + ")", x.fuel(), left);
    }

    @Holds("The fuel that the latest run left")
    static void allIsLeftWhenNoneIsSpent() {
        leaves(Codes.of(17, 0), 0, 4, 0);
        leaves(Codes.of(17, 0), 1, 4, 1);
        leaves(Codes.of(17, 0), 20000, 4, 20000);
    }

    @Holds("The fuel that the latest run left")
    static void noneIsLeftWhenItWasJustEnough() {
        RowCode x = Codes.of(15, 0, 15, 0, 1, 0, 16, 0);
        leaves(x, 3, 0, 1);
        leaves(x, 2, 0, 0);
    }

    @Holds("The fuel that the latest run left")
    static void noneAndNotLessIsLeftWhenItWasTooLittle() {
        RowCode x = Codes.of(15, 0, 15, 0, 1, 0, 16, 0);
        leaves(x, 1, 1, 0);
        leaves(x, 0, 1, 0);
        leaves(Codes.of(13, 0, 15, 0, 10, 0), 20000, 1, 0);
    }

    @Holds("The fuel that the latest run left")
    static void whatIsLeftIsToldWhateverTheAnswer() {
        leaves(Codes.of(15, 0, 0, 1, 16, 0), 7, 0, 6);
        leaves(Codes.of(15, 0, 0, 64, 3, 0, 16, 0), 7, 2, 6);
        leaves(Codes.of(15, 0, 0, 1, 0, 0, 7, 3, 16, 0), 7, 3, 6);
        leaves(Codes.of(15, 0, 17, 0), 7, 4, 6);
    }

    @Holds("The fuel that the latest run left")
    static void onlyTheWayThatIsGoneSpends() {
        RowCode x = Codes.of(1, 0, 11, 0, 15, 0, 15, 0, 13, 0, 15, 0, 17, 0);
        leaves(x, 10, 4, 9);
        x.set(0, 1);
        leaves(x, 10, 4, 7);
        leaves(x, 3, 4, 0);
        leaves(x, 2, 1, 0);
    }

    @Holds("The fuel that the latest run left")
    static void eachRunHasItsOwnFuel() {
        RowCode x = Codes.of(15, 0, 17, 0);
        leaves(x, 20000, 4, 19999);
        leaves(x, 0, 1, 0);
        leaves(x, 5, 4, 4);
        leaves(x, 5, 4, 4);
    }

    @Holds("The fuel that the latest run left")
    static void itStaysUntilTheNextRun() {
        RowCode x = Codes.of(15, 0, 17, 0);
        leaves(x, 50, 4, 49);
        leaves(x, 20001, -1, 49);
        leaves(x, -1, -1, 49);
        x.build();
        Due.same("fuel() behind build", x.fuel(), 49);
        x.set(0, 1);
        x.put(0, 1);
        Due.same("fuel() behind set and put", x.fuel(), 49);
        x.clear();
        Due.same("fuel() behind clear", x.fuel(), 49);
        leaves(x, 7, -1, 49);
    }

    @Holds("0 ahead of any.")
    static void itIs0AheadOfAnyRun() {
        Due.same("fuel() of a new object", new RowCode().fuel(), 0);
        RowCode x = Codes.of(17, 0);
        Due.same("fuel() behind add", x.fuel(), 0);
        x.build();
        Due.same("fuel() behind build", x.fuel(), 0);
        leaves(x, 20001, -1, 0);
        x.clear();
        leaves(x, 50, -1, 0);
    }
}
