/** Promise 4: which codes are right. */
final class BuildTest {
    private BuildTest() {
    }

    private static void right(String what, int... pairs) {
        RowCode x = Due.code(pairs);
        Due.yes("build() " + what, x.build());
        Due.yes("build() again " + what, x.build());
        Due.yes("run(0) is a run " + what, x.run(0) != RowCode.NONE);
    }

    private static void wrong(String what, int... pairs) {
        RowCode x = Due.code(pairs);
        Due.no("build() " + what, x.build());
        Due.no("build() again " + what, x.build());
        Due.same("run(0) " + what, x.run(0), -1);
    }

    public static void main(String[] args) {
        numbersAndArguments();
        labels();
        cases();
        lengths();
        deepest();
        meetings();
        endsOfWays();
        rounds();
        whatNoWayComesTo();
        changesNothing();
        Due.finish();
    }

    private static void numbersAndArguments() {
        wrong("of nothing");
        wrong("of number -1", -1, 0, 17, 0);
        wrong("of number 21", 21, 0, 17, 0);
        wrong("of the least number", Integer.MIN_VALUE, 0, 17, 0);
        wrong("of the greatest number", Integer.MAX_VALUE, 0, 17, 0);
        int[][] greatest = {{1, 15}, {2, 15}, {7, 10}, {8, 5}, {9, 5}, {13, 99}};
        for (int[] g : greatest) {
            for (int k : new int[] {0, g[1]}) {
                right("of " + g[0] + " with " + k, 0, 1, 0, 2, g[0], k, 17, 0);
            }
            for (int k : new int[] {-1, g[1] + 1, Integer.MIN_VALUE, Integer.MAX_VALUE}) {
                wrong("of " + g[0] + " with " + k, 0, 1, 0, 2, g[0], k, 17, 0);
                wrong("of " + g[0] + " with " + k + " where no way comes", 17, 0, g[0], k);
            }
        }
        for (int number : new int[] {0, 3, 4, 5, 6, 14, 15, 16, 17, 19, 20}) {
            for (int k : new int[] {-1, 100, Integer.MIN_VALUE, Integer.MAX_VALUE}) {
                right("of " + number + " with " + k, 0, 1, 0, 2, 0, 3, number, k, 17, 0);
            }
        }
        for (int k : new int[] {-1, 100, Integer.MIN_VALUE, Integer.MAX_VALUE}) {
            right("of 18 with " + k, 0, 1, 18, k, 12, 0, 14, 0, 13, 0, 17, 0);
        }
    }

    private static void labels() {
        right("of label 99", 10, 99, 13, 99, 17, 0);
        right("of a label that nothing goes to", 13, 7, 17, 0);
        wrong("of a label twice", 13, 7, 13, 7, 17, 0);
        wrong("of a label twice, once where no way comes", 13, 7, 17, 0, 13, 7, 17, 0);
        for (int number = 10; number <= 12; number++) {
            right("of " + number + " to a label", 0, 1, number, 3, 0, 1, 14, 0, 13, 3, 17, 0);
            wrong("of " + number + " to no label", 0, 1, number, 3, 13, 4, 17, 0);
            wrong("of " + number + " to no label where no way comes", 17, 0, number, 3);
            wrong("of " + number + " to label -1", 0, 1, number, -1, 17, 0);
            wrong("of " + number + " to label 100", 0, 1, number, 100, 17, 0);
        }
        int[] all = new int[402];
        for (int i = 0; i < 100; i++) {
            all[2 * i] = 13;
            all[2 * i + 1] = i;
            all[200 + 2 * i] = 15;
        }
        all[400] = 17;
        right("of all labels", all);
    }

    private static void cases() {
        right("of an 18 with its 12", 0, 1, 18, 1, 12, 0, 14, 0, 13, 0, 17, 0);
        wrong("of an 18 with a 11", 0, 1, 18, 1, 11, 0, 14, 0, 13, 0, 17, 0);
        wrong("of an 18 with a 10", 0, 1, 18, 1, 10, 0, 14, 0, 13, 0, 17, 0);
        wrong("of an 18 with an 18", 0, 1, 18, 1, 18, 1, 12, 0, 14, 0, 13, 0, 17, 0);
        wrong("of an 18 with a label between", 0, 1, 18, 1, 13, 1, 12, 0, 14, 0, 13, 0, 17, 0);
        wrong("of an 18 at the last place", 0, 1, 17, 0, 18, 1);
        wrong("of an 18 without its 12 where no way comes", 17, 0, 18, 1, 17, 0);
        wrong("of an 18 to no label", 0, 1, 18, 1, 12, 5, 17, 0);
        wrong("of an 18 with an empty row", 18, 1, 12, 0, 13, 0, 17, 0);
        wrong("of an 18 whose other way comes behind the last", 13, 0, 15, 0, 0, 1, 18, 1, 12, 0);
        wrong("of an 18 whose 12 goes to where the row is longer", 0, 1, 18, 1, 12, 0, 13, 0, 17, 0);
        right("of three 18 in a row", 1, 0, 18, 1, 12, 1, 18, 2, 12, 2, 18, 3, 12, 3, 14, 0,
            13, 1, 13, 2, 13, 3, 17, 0);
    }

    private static void lengths() {
        int[] takes = {0, 0, 1, 1, 2, 1, 1, 2, 2, 2, 0, 1, 1, 0, 1, 0, 1, 0, 1, 2, 3};
        for (int number = 0; number <= 20; number++) {
            if (number == 18 || number >= 10 && number <= 12) {
                continue;
            }
            for (int values = 0; values <= 4; values++) {
                RowCode x = new RowCode();
                for (int i = 0; i < values; i++) {
                    x.add(0, 1);
                }
                x.add(number, 0);
                x.add(17, 0);
                Due.same("build() of " + number + " with " + values + " values", x.build() ? 1 : 0,
                    values >= takes[number] ? 1 : 0);
            }
        }
        wrong("of a 11 with an empty row", 11, 0, 13, 0, 17, 0);
        wrong("of a 12 with an empty row", 12, 0, 13, 0, 17, 0);
        right("of a 10 with an empty row", 10, 0, 13, 0, 17, 0);
        wrong("of an end with an empty row", 16, 0);
        right("of an end with more than its value", 0, 1, 0, 2, 16, 0);
        int[] gives = {1, 1, -1, 0, -2, 0, 0, -1, -1, 0};
        for (int number = 0; number <= 9; number++) {
            givesJust(number, gives[number]);
        }
        givesJust(13, 0);
        givesJust(14, -1);
        givesJust(15, 0);
        givesJust(19, -1);
        givesJust(20, -3);
    }

    /** With three values and this instruction, just so many may be dropped. */
    private static void givesJust(int number, int change) {
        for (int more = 0; more <= 1; more++) {
            RowCode x = Due.code(0, 1, 0, 1, 0, 1, number, 0);
            for (int i = 0; i < 3 + change + more; i++) {
                x.add(14, 0);
            }
            x.add(17, 0);
            Due.same("build() of " + number + " and " + (3 + change + more) + " drops", x.build() ? 1 : 0, 1 - more);
        }
    }

    private static void deepest() {
        for (int values = 59; values <= 62; values++) {
            for (int number = 0; number <= 1; number++) {
                RowCode x = new RowCode();
                for (int i = 0; i < values; i++) {
                    x.add(number, 1);
                }
                x.add(17, 0);
                Due.same("build() of " + values + " values by " + number, x.build() ? 1 : 0, values <= 60 ? 1 : 0);
            }
        }
        RowCode x = new RowCode();
        for (int i = 0; i < 60; i++) {
            x.add(1, 0);
        }
        Due.addAll(x, 9, 0, 18, 5, 12, 0, 3, 0, 5, 0, 14, 0, 13, 0, 17, 0);
        Due.yes("build() with 60 values and what makes no more", x.build());
    }

    private static void meetings() {
        wrong("of two lengths at a label", 0, 1, 11, 1, 0, 7, 13, 1, 16, 0);
        wrong("of two lengths at a label that both do for", 0, 9, 0, 1, 11, 1, 0, 7, 13, 1, 16, 0);
        right("of one length at a label", 0, 9, 0, 1, 11, 1, 14, 0, 0, 7, 13, 1, 16, 0);
        wrong("of a round that makes the row longer", 13, 0, 15, 0, 0, 1, 10, 0);
        wrong("of a round that makes the row shorter", 0, 1, 0, 2, 13, 0, 15, 0, 14, 0, 10, 0);
        right("of a round with values below", 0, 1, 0, 2, 13, 0, 15, 0, 0, 3, 14, 0, 10, 0);
        wrong("of a jump back to the first instruction with a longer row", 13, 0, 15, 0, 1, 0, 1, 0, 12, 0, 17, 0);
    }

    private static void endsOfWays() {
        for (int number = 0; number <= 20; number++) {
            if (number == 16 || number == 17 || number == 18 || number >= 10 && number <= 12) {
                continue;
            }
            wrong("of a way behind the last, a " + number, 0, 1, 0, 1, 0, 1, number, 0);
        }
        wrong("of a way behind the last, a 11", 13, 0, 15, 0, 0, 1, 11, 0);
        wrong("of a way behind the last, a 12", 13, 0, 15, 0, 0, 1, 12, 0);
        right("of a 10 at the last place", 13, 0, 15, 0, 10, 0);
        right("of a stop at the last place", 17, 0);
        right("of an end at the last place", 0, 1, 16, 0);
    }

    private static void rounds() {
        wrong("of a round of two", 13, 0, 10, 0);
        right("of a round of two and a 15", 13, 0, 15, 0, 10, 0);
        wrong("of a 15 ahead of the round", 15, 0, 13, 0, 10, 0);
        wrong("of a 15 behind the round", 13, 0, 1, 0, 12, 0, 15, 0, 17, 0);
        wrong("of a 15 on one side of the round alone", 13, 0, 1, 0, 11, 1, 15, 0, 13, 1, 10, 0);
        right("of a 15 on both sides of the round", 13, 0, 1, 0, 11, 1, 15, 0, 10, 0, 13, 1, 15, 0, 10, 0);
        wrong("of an inner round without a 15", 13, 0, 15, 0, 13, 1, 1, 0, 12, 1, 10, 0);
        right("of an inner round with a 15", 13, 0, 15, 0, 13, 1, 15, 0, 1, 0, 12, 1, 10, 0);
        wrong("of a round by an 18", 0, 1, 13, 0, 0, 2, 18, 2, 12, 0, 17, 0);
        right("of a round by an 18 with a 15", 0, 1, 13, 0, 15, 0, 0, 2, 18, 2, 12, 0, 17, 0);
        wrong("of two labels that go to each other", 10, 1, 13, 0, 10, 1, 13, 1, 10, 0);
        wrong("of a round that the values never go", 13, 0, 0, 0, 12, 0, 17, 0);
        right("of a way back that is no round", 10, 1, 13, 0, 17, 0, 13, 1, 10, 0);
    }

    private static void whatNoWayComesTo() {
        right("of an empty row where no way comes", 17, 0, 14, 0, 7, 0, 16, 0);
        right("of a way behind the last where no way comes", 17, 0, 0, 1);
        right("of a free round where no way comes", 17, 0, 13, 0, 10, 0);
        right("of two lengths, one where no way comes", 10, 0, 0, 1, 13, 0, 17, 0);
        right("of a 12 behind an 18, that takes nothing", 0, 1, 18, 1, 12, 0, 17, 0, 13, 0, 17, 0);
    }

    private static void changesNothing() {
        RowCode x = Due.code(15, 0, 0, 5, 2, 2, 0, 6, 16, 0);
        x.run(3);
        x.build();
        Due.same("value() behind build", x.value(), 6);
        Due.same("fuel() behind build", x.fuel(), 2);
        Due.same("local(2) behind build", x.local(2), 5);
        x.set(2, 8);
        x.build();
        Due.same("a build runs nothing", x.local(2), 8);
    }
}
