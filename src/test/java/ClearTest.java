@Heading("Promise 3: clear")
final class ClearTest {
    private ClearTest() {
    }

    public static void main(String[] args) {
        Sentences.holdAll(ClearTest.class);
    }

    @Holds("All instructions go.")
    static void nothingIsLeftToBuildOrRun() {
        RowCode x = Codes.of(0, 7, 16, 0);
        Due.same("run(5)", x.run(5), 0);
        x.clear();
        Due.no("build() behind clear", x.build());
        Due.same("run(5) behind clear", x.run(5), -1);
    }

    @Holds("All instructions go.")
    static void aClearOfNoInstructionsLeavesNone() {
        RowCode x = new RowCode();
        x.clear();
        Due.no("build() behind a clear of nothing", x.build());
        x.clear();
        Due.no("build() behind two of them", x.build());
        Due.same("add", x.add(17, 0), 1);
        Due.yes("build() of it", x.build());
    }

    @Holds("All instructions go.")
    static void all400Go() {
        RowCode x = new RowCode();
        Codes.addTimes(x, 401, 15, 0);
        x.clear();
        Due.no("build() behind clear", x.build());
        Due.same("add number 1", x.add(0, 4), 1);
        Due.same("add number 2", x.add(16, 0), 2);
        Due.same("run(0) of the new code", x.run(0), 0);
        Due.same("value() of the new code", x.value(), 4);
    }

    @Holds("All instructions go.")
    static void thereIsRoomFor400Again() {
        RowCode x = new RowCode();
        Codes.addTimes(x, 50, 15, 0);
        x.clear();
        for (int i = 1; i <= 400; i++) {
            Due.same("add number " + i, x.add(15, 0), i);
        }
        Due.same("add number 401", x.add(15, 0), -1);
    }

    @Holds("All instructions go.")
    static void labelsGoWithThem() {
        RowCode x = Codes.of(13, 5, 17, 0);
        Due.yes("build() with label 5", x.build());
        x.clear();
        Codes.add(x, 10, 5);
        Due.no("build() of a way to a label that went", x.build());
        x.clear();
        Codes.add(x, 13, 5, 17, 0);
        Due.yes("build() with label 5 again", x.build());
    }

    @Holds("All instructions go.")
    static void aWrongCodeGoesToo() {
        RowCode x = Codes.of(99, 0);
        Due.no("build() of a wrong code", x.build());
        x.clear();
        x.add(17, 0);
        Due.yes("build() of the new code", x.build());
        Due.same("run(0) of the new code", x.run(0), 4);
    }

    @Holds("All instructions go.")
    static void nothingButInstructionsGoes() {
        RowCode x = Codes.of(15, 0, 0, 9, 2, 0, 0, 8, 0, 0, 4, 0, 0, 7, 16, 0);
        Due.same("run(5)", x.run(5), 0);
        x.clear();
        Due.state("behind clear", x, 7, 4, new int[] {9}, new int[] {8});
    }
}
