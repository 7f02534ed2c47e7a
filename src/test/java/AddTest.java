/** Promise 2: add tells how many instructions there are; the 401st is refused. */
final class AddTest {
    private AddTest() {
    }

    public static void main(String[] args) {
        countsAndRefuses();
        takesAnything();
        changesTheCode();
        Due.finish();
    }

    private static void countsAndRefuses() {
        RowCode x = new RowCode();
        for (int i = 1; i < 400; i++) {
            Due.same("add number " + i, x.add(15, 0), i);
        }
        Due.no("build() with no end", x.build());
        Due.same("add number 400", x.add(17, 0), 400);
        Due.yes("build() of 400 instructions", x.build());
        Due.same("add number 401", x.add(99, 0), -1);
        Due.same("add number 402", x.add(17, 0), -1);
        Due.yes("build() when the 401st was refused", x.build());
        Due.same("run(399)", x.run(399), 4);
        Due.same("fuel()", x.fuel(), 0);
        Due.same("run(398)", x.run(398), 1);
        x.clear();
        Due.same("add behind clear", x.add(17, 0), 1);
    }

    /** What is no instruction is added all the same; only the code is not right then. */
    private static void takesAnything() {
        RowCode x = new RowCode();
        Due.same("add(-1, 0)", x.add(-1, 0), 1);
        Due.same("add(21, 0)", x.add(21, 0), 2);
        Due.same("add(1, 16)", x.add(1, 16), 3);
        Due.same("add(MIN, MIN)", x.add(Integer.MIN_VALUE, Integer.MIN_VALUE), 4);
        Due.same("add(MAX, MAX)", x.add(Integer.MAX_VALUE, Integer.MAX_VALUE), 5);
        Due.no("build() of no instructions", x.build());
    }

    /** An instruction that comes behind a build or a run is part of the next one. */
    private static void changesTheCode() {
        RowCode x = Due.code(0, 3, 16, 0);
        Due.yes("build()", x.build());
        Due.same("run(0)", x.run(0), 0);
        Due.same("value()", x.value(), 3);
        Due.same("add(99, 0)", x.add(99, 0), 3);
        Due.no("build() with a number that is none", x.build());
        Due.same("run(0) with a number that is none", x.run(0), -1);

        RowCode y = Due.code(0, 3);
        Due.no("build() of a code that goes behind its last", y.build());
        y.add(16, 0);
        Due.yes("build() when the end has come", y.build());
        Due.same("run(0)", y.run(0), 0);
        Due.same("value()", y.value(), 3);
    }
}
