/** Promise 1: a new object has no instructions, and its locals and words are 0. */
final class NewObjectTest {
    private NewObjectTest() {
    }

    public static void main(String[] args) {
        Due.same("NONE", RowCode.NONE, -1);
        RowCode x = new RowCode();
        Due.no("build() of a new object", x.build());
        Due.same("run(0) of a new object", x.run(0), -1);
        Due.same("run(20000) of a new object", x.run(20000), -1);
        Due.same("value() of a new object", x.value(), 0);
        Due.same("fuel() of a new object", x.fuel(), 0);
        for (int i = 0; i < 16; i++) {
            Due.same("local(" + i + ")", x.local(i), 0);
        }
        for (int i = 0; i < 64; i++) {
            Due.same("word(" + i + ")", x.word(i), 0);
        }
        Due.same("the first add", x.add(17, 0), 1);

        // Two objects share nothing.
        RowCode y = new RowCode();
        y.set(0, 5);
        y.put(0, 6);
        y.add(0, 7);
        Due.same("another object's local", x.local(0), 0);
        Due.same("another object's word", x.word(0), 0);
        Due.yes("another object's code", x.build());
        Due.same("a new object behind others", new RowCode().local(0), 0);
        Due.finish();
    }
}
