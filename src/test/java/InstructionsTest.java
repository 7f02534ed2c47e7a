/** Promise 5: what each instruction does; each on numbers that are written out, and on locals that are not known. */
final class InstructionsTest {
    private static final int MIN = Integer.MIN_VALUE;
    private static final int MAX = Integer.MAX_VALUE;

    private InstructionsTest() {
    }

    private static void ends(String what, RowCode x, int value) {
        Due.same("run(0) of " + what, x.run(0), 0);
        Due.same("value() of " + what, x.value(), value);
    }

    private static void one(int number, int top, int value) {
        ends(number + " on " + top, Due.code(0, top, number, 0, 16, 0), value);
        RowCode x = Due.code(1, 3, number, 0, 16, 0);
        x.set(3, top);
        ends(number + " on local " + top, x, value);
    }

    private static RowCode ofLocals(int a, int b, int... pairs) {
        RowCode x = Due.code(pairs);
        x.set(0, a);
        x.set(1, b);
        return x;
    }

    private static void two(int number, int k, int a, int b, int value) {
        String what = number + " " + k + " on " + a + " " + b;
        ends(what, Due.code(0, a, 0, b, number, k, 16, 0), value);
        ends(what + ", locals", ofLocals(a, b, 1, 0, 1, 1, number, k, 16, 0), value);
        ends(what + ", a local and a number", ofLocals(a, b, 1, 0, 0, b, number, k, 16, 0), value);
        ends(what + ", a number and a local", ofLocals(a, b, 0, a, 1, 1, number, k, 16, 0), value);
        ends(what + ", the second made first", ofLocals(a, -b, 1, 0, 1, 1, 5, 0, number, k, 16, 0), value);
        ends(what + ", both made", ofLocals(-a, -b, 1, 0, 5, 0, 1, 1, 5, 0, number, k, 16, 0), value);
        ends(what + ", below others", ofLocals(a, b, 1, 0, 1, 1, 1, 1, 1, 0, 14, 0, 14, 0, number, k, 16, 0), value);
    }

    public static void main(String[] args) {
        pushesAndLocals();
        singles();
        calculations();
        comparisons();
        comparisonsThatKeep();
        words();
        bytes();
        jumps();
        cases();
        Due.finish();
    }

    private static void pushesAndLocals() {
        int[] values = {0, 1, -1, 8388607, 8388608, -8388608, -8388609, 0x7f000001, MIN, MAX};
        for (int value : values) {
            ends("0 " + value, Due.code(0, value, 16, 0), value);
            RowCode x = Due.code(0, value, 2, 15, 0, 4, 16, 0);
            ends("0 " + value + " to local 15", x, 4);
            Due.same("local(15)", x.local(15), value);
        }
        for (int i = 0; i < 16; i++) {
            RowCode x = Due.code(1, i, 16, 0);
            x.set(i, 100 + i);
            ends("local " + i, x, 100 + i);
        }
        // The value that was laid stays, whatever the local gets.
        ends("an old value below", ofLocals(1, 0, 1, 0, 0, 5, 2, 0, 1, 0, 7, 1, 16, 0), -4);
        RowCode swap = ofLocals(3, 4, 1, 0, 1, 1, 2, 0, 2, 1, 17, 0);
        swap.run(0);
        Due.same("local 0 of two that are changed about", swap.local(0), 4);
        Due.same("local 1 of two that are changed about", swap.local(1), 3);
        ends("three old values", ofLocals(2, 0, 1, 0, 1, 0, 1, 0, 0, 9, 2, 0, 7, 0, 7, 0, 1, 0, 7, 2, 16, 0), 54);
    }

    private static void singles() {
        int[][] negatives = {{0, 0}, {1, -1}, {-7, 7}, {MAX, -MAX}, {MIN, MIN}};
        for (int[] n : negatives) {
            one(5, n[0], n[1]);
        }
        int[][] turned = {{0, -1}, {-1, 0}, {5, -6}, {MAX, MIN}, {MIN, MAX}};
        for (int[] t : turned) {
            one(6, t[0], t[1]);
        }
        ends("5 5", ofLocals(9, 0, 1, 0, 5, 0, 5, 0, 16, 0), 9);
        ends("6 6", ofLocals(9, 0, 1, 0, 6, 0, 6, 0, 16, 0), 9);
        ends("5 6", ofLocals(9, 0, 1, 0, 5, 0, 6, 0, 16, 0), 8);
        ends("6 5", ofLocals(9, 0, 1, 0, 6, 0, 5, 0, 16, 0), 10);
        ends("14", Due.code(0, 8, 0, 9, 14, 0, 16, 0), 8);
        ends("14 of what was made", ofLocals(3, 0, 1, 0, 5, 0, 1, 0, 6, 0, 14, 0, 16, 0), -3);
    }

    private static void calculations() {
        int[][] due = {
            {0, 2, 3, 5}, {0, MAX, 1, MIN}, {0, 7, 0, 7}, {0, MIN, MIN, 0},
            {1, 2, 3, -1}, {1, MIN, 1, MAX}, {1, 7, 0, 7}, {1, 0, MIN, MIN},
            {2, 6, 7, 42}, {2, 65536, 65536, 0}, {2, MAX, 2, -2}, {2, 9, 1, 9}, {2, MIN, -1, MIN}, {2, 9, 0, 0},
            {3, 7, 2, 3}, {3, -7, 2, -3}, {3, 7, -2, -3}, {3, -7, -2, 3}, {3, MIN, -1, MIN}, {3, 9, 1, 9}, {3, 0, 5, 0},
            {4, 7, 2, 1}, {4, -7, 2, -1}, {4, 7, -2, 1}, {4, -7, -2, -1}, {4, MIN, -1, 0}, {4, 9, 1, 0},
            {5, 12, 10, 8}, {5, -1, 77, 77}, {5, 77, -1, 77}, {5, 5, 0, 0},
            {6, 12, 10, 14}, {6, 77, 0, 77}, {6, 5, -1, -1},
            {7, 12, 10, -7}, {7, 0, 0, -1}, {7, 77, -1, 77}, {7, 5, 0, -6},
            {8, 12, 10, 6}, {8, 77, 77, 0}, {8, 77, 0, 77}, {8, 5, -1, -6},
            {9, 3, 2, 12}, {9, 1, 31, MIN}, {9, 1, 32, 0}, {9, 1, -1, 0}, {9, 5, 0, 5}, {9, 1, 33, 0}, {9, 8, MIN, 0},
            {9, 8, MAX, 0}, {9, -1, 4, -16},
            {10, 12, 2, 3}, {10, MIN, 31, 1}, {10, -1, 32, 0}, {10, -1, -1, 0}, {10, -5, 0, -5}, {10, -1, 1, MAX},
            {10, 8, 33, 0}, {10, 8, MIN, 0}, {10, 8, MAX, 0}, {10, -16, 28, 15},
        };
        for (int[] d : due) {
            two(7, d[0], d[1], d[2], d[3]);
        }
        for (int k = 3; k <= 4; k++) {
            for (int x : new int[] {0, 1, MIN}) {
                Due.same("7 " + k + " by 0", Due.code(0, x, 0, 0, 7, k, 16, 0).run(0), 3);
                Due.same("7 " + k + " by local 0", ofLocals(x, 0, 1, 0, 1, 1, 7, k, 16, 0).run(0), 3);
                Due.same("7 " + k + " by 0, dropped", Due.code(0, x, 0, 0, 7, k, 14, 0, 17, 0).run(0), 3);
            }
        }
    }

    private static void comparisons() {
        int[][] pairs = {{1, 2}, {2, 1}, {2, 2}, {MIN, MAX}, {MAX, MIN}, {-1, 0}, {0, 0}, {0, -1}, {MIN, MIN},
            {MIN, 1}};
        for (int[] p : pairs) {
            boolean[] holds = {p[0] == p[1], p[0] != p[1], p[0] < p[1], p[0] <= p[1], p[0] > p[1], p[0] >= p[1]};
            for (int k = 0; k < 6; k++) {
                int value = holds[k] ? -1 : 0;
                two(8, k, p[0], p[1], value);
                String what = "8 " + k + " on " + p[0] + " " + p[1];
                ends(what + " turned", ofLocals(p[0], p[1], 1, 0, 1, 1, 8, k, 6, 0, 16, 0), ~value);
                ends(what + " = 0", ofLocals(p[0], p[1], 1, 0, 1, 1, 8, k, 0, 0, 8, 0, 16, 0), ~value);
                ends(what + " not = 0", ofLocals(p[0], p[1], 1, 0, 1, 1, 8, k, 0, 0, 8, 1, 16, 0), value);
                ends(what + " negative", ofLocals(p[0], p[1], 1, 0, 1, 1, 8, k, 5, 0, 16, 0), -value);
                for (int number = 11; number <= 12; number++) {
                    int goes = (value != 0) == (number == 12) ? 20 : 10;
                    ends(what + " and " + number, ofLocals(p[0], p[1], 1, 0, 1, 1, 8, k, number, 5, 0, 10, 16, 0,
                        13, 5, 0, 20, 16, 0), goes);
                    ends(what + " and " + number + ", the second made first",
                        ofLocals(p[0], ~p[1], 1, 0, 1, 1, 6, 0, 8, k, number, 5, 0, 10, 16, 0,
                            13, 5, 0, 20, 16, 0), goes);
                }
            }
        }
    }

    private static void comparisonsThatKeep() {
        int[][] pairs = {{1, 2}, {2, 1}, {2, 2}, {MIN, MAX}, {MAX, MIN}};
        for (int[] p : pairs) {
            boolean[] holds = {p[0] == p[1], p[0] != p[1], p[0] < p[1], p[0] <= p[1], p[0] > p[1], p[0] >= p[1]};
            for (int k = 0; k < 6; k++) {
                two(9, k, p[0], p[1], holds[k] ? -1 : 0);
                String what = "9 " + k + " on " + p[0] + " " + p[1];
                ends(what + " and 14", ofLocals(p[0], p[1], 1, 0, 1, 1, 9, k, 14, 0, 16, 0), p[1]);
                ends(what + " and 14, made", ofLocals(p[0], ~p[1], 1, 0, 1, 1, 6, 0, 9, k, 14, 0, 16, 0), p[1]);
                ends(what + " and 7 1", ofLocals(p[0], p[1], 1, 0, 1, 1, 9, k, 7, 1, 16, 0),
                    holds[k] ? p[1] + 1 : p[1]);
            }
        }
        // 1 < 2 < 3, and 1 < 2 < 2.
        ends("a chain that holds", Due.code(0, 1, 0, 2, 9, 2, 11, 0, 0, 3, 8, 2, 16, 0, 13, 0, 14, 0, 0, 0, 16, 0), -1);
        ends("a chain that does not",
            Due.code(0, 1, 0, 2, 9, 2, 11, 0, 0, 2, 8, 2, 16, 0, 13, 0, 14, 0, 0, 0, 16, 0), 0);
        ends("the value below stays", ofLocals(5, 6, 0, 9, 1, 0, 1, 1, 9, 2, 14, 0, 14, 0, 16, 0), 9);
    }

    private static void words() {
        for (int address : new int[] {0, 1, 62, 63}) {
            RowCode x = ofLocals(address, 77, 1, 1, 1, 0, 4, 0, 1, 0, 3, 0, 16, 0);
            ends("4 and 3 at " + address, x, 77);
            Due.same("word(" + address + ")", x.word(address), 77);
            RowCode y = Due.code(0, 78, 0, address, 4, 0, 0, address, 3, 0, 16, 0);
            ends("4 and 3 at the number " + address, y, 78);
            ends("4 with the address made first",
                ofLocals(~address, 79, 1, 1, 1, 0, 6, 0, 4, 0, 0, address, 3, 0, 16, 0), 79);
        }
        for (int address : new int[] {-1, 64, MIN, MAX}) {
            RowCode x = ofLocals(address, 77, 0, 5, 2, 4, 1, 1, 1, 0, 4, 0, 0, 6, 2, 4, 17, 0);
            Due.same("run(0) of 4 at " + address, x.run(0), 2);
            Due.same("what came ahead is done", x.local(4), 5);
            for (int i = 0; i < 64; i++) {
                Due.same("word(" + i + ")", x.word(i), 0);
            }
            Due.same("run(0) of 3 at " + address, ofLocals(address, 0, 1, 0, 3, 0, 17, 0).run(0), 2);
            Due.same("run(0) of 3 at " + address + ", dropped", Due.code(0, address, 3, 0, 14, 0, 17, 0).run(0), 2);
        }
        // A word is read where the 3 stands, not later.
        ends("3 ahead of 4", Due.code(0, 9, 3, 0, 0, 5, 0, 9, 4, 0, 0, 9, 3, 0, 7, 1, 16, 0), -5);
    }

    private static void bytes() {
        RowCode x = Due.code(1, 0, 1, 1, 19, 0, 16, 0);
        x.put(0, 0x81F27364);
        x.put(63, 0x0badf00d);
        int[][] due = {{0, 0, 0x64}, {0, 1, 0x73}, {0, 2, 0xF2}, {0, 3, 0x81}, {0, 4, 0}, {1, -4, 0x64}, {1, -1, 0x81},
            {63, 0, 0x0d}, {0, 255, 0x0b}, {64, -1, 0x0b}, {64, -4, 0x0d}, {-1, 4, 0x64}, {-1, 7, 0x81},
            {536870912, MIN, 0x64}, {536870912, MIN + 3, 0x81}, {-536870911, MAX, 0x81}};
        for (int[] d : due) {
            x.set(0, d[0]);
            x.set(1, d[1]);
            if (d[0] == -536870911) {
                // Word 0 of MAX: -536870911 + 536870911.
                Due.same("the word that MAX tells", d[0] + (MAX >> 2), 0);
            }
            ends("19 on " + d[0] + " " + d[1], x, d[2]);
        }
        int[][] none = {{64, 0}, {0, -1}, {0, 256}, {63, 4}, {-1, 3}, {MAX, MAX}, {MIN, MIN}, {MAX, 4}, {MIN, -1},
            {MAX, MIN}, {MIN, MAX}};
        for (int[] n : none) {
            x.set(0, n[0]);
            x.set(1, n[1]);
            Due.same("run(0) of 19 on " + n[0] + " " + n[1], x.run(0), 2);
            RowCode y = ofLocals(n[0], n[1], 0, 1, 1, 0, 1, 1, 20, 0, 17, 0);
            Due.same("run(0) of 20 on " + n[0] + " " + n[1], y.run(0), 2);
            for (int i = 0; i < 64; i++) {
                Due.same("word(" + i + ")", y.word(i), 0);
            }
        }
        storedBytes();
    }

    private static void storedBytes() {
        RowCode x = Due.code(1, 2, 1, 0, 1, 1, 20, 0, 0, 5, 16, 0);
        int[][] due = {{0, 0, 0x55555501}, {0, 1, 0x55550155}, {0, 2, 0x55015555}, {0, 3, 0x01555555},
            {1, -4, 0x55555501}, {1, -1, 0x01555555}, {-1, 4, 0x55555501}, {536870912, MIN, 0x55555501}};
        for (int[] d : due) {
            x.put(0, 0x55555555);
            x.set(0, d[0]);
            x.set(1, d[1]);
            x.set(2, 0xFFFFFF01);
            ends("20 on " + d[0] + " " + d[1], x, 5);
            Due.same("the word behind 20 on " + d[0] + " " + d[1], x.word(0), d[2]);
            Due.same("the next word", x.word(1), 0);
        }
        RowCode y = ofLocals(-2, -5, 0, 9, 0, 300, 1, 0, 5, 0, 1, 1, 5, 0, 20, 0, 0, 2, 0, 5, 19, 0, 7, 0, 16, 0);
        ends("20 and 19 with made values, another below", y, 53);
        Due.same("word(3)", y.word(3), 11264);
    }

    private static void jumps() {
        for (int top : new int[] {0, 1, -1, MIN, MAX}) {
            for (int number = 11; number <= 12; number++) {
                int value = (top == 0) == (number == 11) ? 20 : 10;
                ends(number + " on " + top, Due.code(0, top, number, 5, 0, 10, 16, 0, 13, 5, 0, 20, 16, 0), value);
                ends(number + " on local " + top,
                    ofLocals(top, 0, 1, 0, number, 5, 0, 10, 16, 0, 13, 5, 0, 20, 16, 0), value);
                ends(number + " on the negative of " + top,
                    ofLocals(top, 0, 1, 0, 5, 0, number, 5, 0, 10, 16, 0, 13, 5, 0, 20, 16, 0), value);
                ends(number + " with a value below", ofLocals(top, 6, 1, 1, 1, 0, number, 5, 0, 10, 7, 0, 16, 0,
                    13, 5, 0, 20, 7, 0, 16, 0), value + 6);
            }
        }
        ends("10", Due.code(10, 1, 13, 0, 0, 7, 16, 0, 13, 1, 10, 0), 7);
        ends("10 with values", ofLocals(3, 4, 1, 0, 1, 1, 10, 1, 13, 0, 7, 1, 16, 0, 13, 1, 10, 0), -1);
        // The sum of 10, 9, .. 1: the sum and the count stay on the row from round to round.
        RowCode sum = Due.code(0, 0, 0, 10, 13, 0, 15, 0, 2, 1, 1, 1, 7, 0, 1, 1, 0, 1, 7, 1, 2, 1, 1, 1, 1, 1, 12, 0,
            14, 0, 16, 0);
        Due.same("run(10) of the sum", sum.run(10), 0);
        Due.same("value() of the sum", sum.value(), 55);
        Due.same("run(9) of the sum", sum.run(9), 1);
    }

    private static void cases() {
        for (int value : new int[] {1, 2, 3, 4, MIN, 0}) {
            int due = value == 1 ? 11 : value == 2 ? 22 : value == MIN ? 33 : value + 100;
            ends("three 18 on " + value, ofLocals(value, 0, 1, 0, 18, 1, 12, 1, 18, 2, 12, 2, 18, MIN, 12, 3,
                0, 100, 7, 0, 16, 0, 13, 1, 0, 11, 16, 0, 13, 2, 0, 22, 16, 0, 13, 3, 0, 33, 16, 0), due);
            ends("18 on the number " + value, Due.code(0, 50, 0, value, 18, 1, 12, 1, 16, 0, 13, 1, 16, 0),
                value == 1 ? 50 : value);
        }
        // The 12 of an 18 looks at nothing: the value below is 0, and it goes all the same.
        ends("18 above a 0", Due.code(0, 0, 0, 4, 18, 4, 12, 1, 14, 0, 14, 0, 0, 8, 16, 0, 13, 1, 16, 0), 0);
        ends("18 that passes its 12 over", Due.code(0, 0, 0, 5, 18, 4, 12, 1, 16, 0, 13, 1, 16, 0), 5);
    }
}
