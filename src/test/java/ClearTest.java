/** Promise 3: clear takes all instructions and nothing else. */
final class ClearTest {
    private ClearTest() {
    }

    public static void main(String[] args) {
        RowCode x = Due.code(15, 0, 0, 9, 2, 3, 0, 8, 0, 4, 4, 0, 0, 7, 16, 0);
        Due.same("run(5)", x.run(5), 0);
        x.clear();
        Due.no("build() behind clear", x.build());
        Due.same("run(5) behind clear", x.run(5), -1);
        Due.same("value() behind clear", x.value(), 7);
        Due.same("fuel() behind clear", x.fuel(), 4);
        Due.same("local(3) behind clear", x.local(3), 9);
        Due.same("word(4) behind clear", x.word(4), 8);
        Due.same("add behind clear", x.add(17, 0), 1);
        Due.yes("build() of the new code", x.build());
        Due.same("run(2) of the new code", x.run(2), 4);

        // Labels go with the instructions.
        x.clear();
        Due.addAll(x, 13, 5, 17, 0);
        Due.yes("build() with label 5", x.build());
        x.clear();
        Due.addAll(x, 10, 5);
        Due.no("build() of a way to a label that went", x.build());
        x.clear();
        Due.addAll(x, 13, 5, 17, 0);
        Due.yes("build() with label 5 again", x.build());

        x.clear();
        x.clear();
        Due.no("build() behind two clears", x.build());
        new RowCode().clear();
        Due.finish();
    }
}
