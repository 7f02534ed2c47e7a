@Heading("Promise 4: build")
final class BuildTest {
    private BuildTest() {
    }

    public static void main(String[] args) {
        Sentences.holdAll(BuildTest.class);
    }

    @Holds("Whether the code is right.")
    static void aRightCodeIsRightEachTime() {
        RowCode x = Codes.of(0, 1, 16, 0);
        Due.yes("build()", x.build());
        Due.yes("build() again", x.build());
        x.run(0);
        Due.yes("build() behind a run", x.build());
    }

    @Holds("Whether the code is right.")
    static void aWrongCodeIsWrongEachTime() {
        RowCode x = Codes.of(16, 0);
        Due.no("build()", x.build());
        Due.no("build() again", x.build());
        x.run(0);
        Due.no("build() behind a run", x.build());
    }

    @Holds("Whether the code is right.")
    static void noCodeIsNotRight() {
        Due.no("build() of nothing", new RowCode().build());
    }

    @Holds("Whether the code is right.")
    static void aFullCodeMayBeRightOrWrong() {
        RowCode x = new RowCode();
        Codes.addTimes(x, 399, 15, 0);
        Due.no("build() of 399 with no end", x.build());
        x.add(17, 0);
        Due.yes("build() of 400", x.build());
        RowCode y = new RowCode();
        Codes.addTimes(y, 400, 15, 0);
        Due.no("build() of 400 with no end", y.build());
    }

    @Holds("Whether the code is right.")
    static void eachChangeOfTheCodeIsSeen() {
        RowCode x = Codes.of(0, 1);
        Due.no("build() with no end", x.build());
        x.add(16, 0);
        Due.yes("build() with its end", x.build());
        x.add(13, 100);
        Due.no("build() with a label that is none", x.build());
        x.clear();
        Due.no("build() behind clear", x.build());
        x.add(17, 0);
        Due.yes("build() of a stop", x.build());
    }

    @Holds("Whether the code is right.")
    static void aCodeThatCannotEndWellIsRightAllTheSame() {
        Due.yes("build() of an address that is none", Codes.of(0, 64, 3, 0, 16, 0).build());
        Due.yes("build() of a division by 0", Codes.of(0, 1, 0, 0, 7, 3, 16, 0).build());
        Due.yes("build() of a round without end", Codes.of(13, 0, 15, 0, 10, 0).build());
    }

    @Holds("Whether the code is right.")
    static void aBuildRunsNothing() {
        RowCode x = Codes.of(15, 0, 0, 5, 2, 0, 0, 6, 0, 0, 4, 0, 0, 7, 16, 0);
        x.build();
        Due.state("behind a build", x, 0, 0, new int[0], new int[0]);
        x.run(3);
        x.set(0, 8);
        x.put(0, 9);
        x.build();
        Due.state("behind a run and a build", x, 7, 2, new int[] {8}, new int[] {9});
    }
}
