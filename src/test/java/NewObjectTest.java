@Heading("Promise 1: A new object")
final class NewObjectTest {
    private NewObjectTest() {
    }

    public static void main(String[] args) {
        Sentences.holdAll(NewObjectTest.class);
    }

    @Holds("No instructions")
    static void theFirstAddMakesOneInstruction() {
        Due.same("the first add", new RowCode().add(17, 0), 1);
    }

    @Holds("No instructions")
    static void aNewObjectHasNoCodeToBuildOrRun() {
        RowCode x = new RowCode();
        Due.no("build() of a new object", x.build());
        Due.same("run(0) of a new object", x.run(0), -1);
        Due.same("run(20000) of a new object", x.run(20000), -1);
    }

    @Holds("locals and words are 0.")
    static void eachLocalIs0() {
        RowCode x = new RowCode();
        for (int i = 0; i < 16; i++) {
            Due.same("local(" + i + ")", x.local(i), 0);
        }
    }

    @Holds("locals and words are 0.")
    static void eachWordIs0() {
        RowCode x = new RowCode();
        for (int i = 0; i < 64; i++) {
            Due.same("word(" + i + ")", x.word(i), 0);
        }
    }

    @Holds("locals and words are 0.")
    static void aCodeFindsLocalsAndWords0() {
        for (int i = 0; i < 16; i++) {
            Codes.ends("local " + i + " of a new object", Codes.of(1, i, 16, 0), 0);
        }
        for (int i = 0; i < 64; i++) {
            Codes.ends("word " + i + " of a new object", Codes.of(0, i, 3, 0, 16, 0), 0);
        }
    }

    @Holds("No instructions; locals and words are 0.")
    static void aNewObjectBehindAUsedOneIsNew() {
        RowCode used = Codes.of(0, 7, 16, 0);
        used.set(0, 5);
        used.put(0, 6);
        used.run(3);
        RowCode x = new RowCode();
        Due.no("build()", x.build());
        Due.state("of the new one", x, 0, 0, new int[0], new int[0]);
        Due.same("add", x.add(17, 0), 1);
    }
}
