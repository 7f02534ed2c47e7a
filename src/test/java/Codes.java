/** Codes for the tests, told as pairs of number and argument, and what is due of them. */
final class Codes {
    static final int MIN = Integer.MIN_VALUE;
    static final int MAX = Integer.MAX_VALUE;

    private Codes() {
    }

    static RowCode of(int... pairs) {
        RowCode x = new RowCode();
        add(x, pairs);
        return x;
    }

    static void add(RowCode x, int... pairs) {
        for (int i = 0; i + 1 < pairs.length; i += 2) {
            x.add(pairs[i], pairs[i + 1]);
        }
    }

    static void addTimes(RowCode x, int times, int... pairs) {
        for (int i = 0; i < times; i++) {
            add(x, pairs);
        }
    }

    /** A code with locals 0 and 1 set: their values can't be known ahead of the run. */
    static RowCode ofLocals(int a, int b, int... pairs) {
        RowCode x = of(pairs);
        x.set(0, a);
        x.set(1, b);
        return x;
    }

    static void right(String what, int... pairs) {
        right(what, of(pairs));
    }

    static void right(String what, RowCode x) {
        Due.yes("build() of " + what, x.build());
        Due.yes("run(0) is a run of " + what, x.run(0) != -1);
    }

    static void wrong(String what, int... pairs) {
        wrong(what, of(pairs));
    }

    static void wrong(String what, RowCode x) {
        boolean found = x.build();
        Due.no("build() of " + what, found);
        if (found) {
            // Such a code might run for ever.
            return;
        }
        Due.same("run(0) of " + what, x.run(0), -1);
        Due.same("run(20000) of " + what, x.run(20000), -1);
    }

    static void ends(String what, RowCode x, int value) {
        Due.same("run(0) of " + what, x.run(0), 0);
        Due.same("value() of " + what, x.value(), value);
    }

    /** What a number makes of the top; the top is a number, a local, and a value that has just been made. */
    static void one(int number, int top, int value) {
        String what = number + " on " + top;
        ends(what, of(0, top, number, 0, 16, 0), value);
        ends(what + ", a local", ofLocals(top, 0, 1, 0, number, 0, 16, 0), value);
        ends(what + ", made", ofLocals(top ^ 77, 0, 1, 0, 0, 77, 7, 8, number, 0, 16, 0), value);
        ends(what + ", another below", ofLocals(top, 0, 0, 9, 1, 0, number, 0, 0, 9, 7, 8, 7, 8, 16, 0), value);
    }

    /** What a number makes of the top two, wherever the two come from. */
    static void two(int number, int k, int x, int y, int value) {
        String what = number + " " + k + " on " + x + " " + y;
        ends(what, of(0, x, 0, y, number, k, 16, 0), value);
        ends(what + ", locals", ofLocals(x, y, 1, 0, 1, 1, number, k, 16, 0), value);
        ends(what + ", a local and a number", ofLocals(x, y, 1, 0, 0, y, number, k, 16, 0), value);
        ends(what + ", a number and a local", ofLocals(x, y, 0, x, 1, 1, number, k, 16, 0), value);
        ends(what + ", the first made", ofLocals(~x, y, 1, 0, 6, 0, 1, 1, number, k, 16, 0), value);
        ends(what + ", the second made", ofLocals(x, -y, 1, 0, 1, 1, 5, 0, number, k, 16, 0), value);
        ends(what + ", both made", ofLocals(-x, ~y, 1, 0, 5, 0, 1, 1, 6, 0, number, k, 16, 0), value);
        ends(what + ", below others", ofLocals(x, y, 1, 0, 1, 1, 1, 1, 1, 0, 14, 0, 14, 0, number, k, 16, 0), value);
    }
}
