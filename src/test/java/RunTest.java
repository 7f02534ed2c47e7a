/** Promise 5: what run answers, and what it leaves alone. */
final class RunTest {
    private RunTest() {
    }

    public static void main(String[] args) {
        answers();
        fuels();
        noRun();
        codeAsItIs();
        stateGoesOn();
        longRuns();
        wholeCode();
        Due.finish();
    }

    private static void answers() {
        Due.same("an end", Due.code(0, 1, 16, 0).run(0), 0);
        Due.same("no fuel", Due.code(15, 0, 17, 0).run(0), 1);
        Due.same("no address", Due.code(0, 64, 3, 0, 16, 0).run(0), 2);
        Due.same("a division", Due.code(0, 1, 0, 0, 7, 3, 16, 0).run(0), 3);
        Due.same("a rest", Due.code(0, 1, 0, 0, 7, 4, 16, 0).run(0), 3);
        Due.same("a stop", Due.code(17, 0).run(0), 4);
        Due.same("a stop with values", Due.code(0, 1, 0, 2, 17, 0).run(0), 4);
    }

    private static void fuels() {
        RowCode x = Due.code(15, 0, 17, 0);
        for (int fuel : new int[] {-1, 20001, Integer.MIN_VALUE, Integer.MAX_VALUE}) {
            Due.same("run(" + fuel + ")", x.run(fuel), -1);
        }
        Due.same("run(0)", x.run(0), 1);
        Due.same("run(1)", x.run(1), 4);
        Due.same("run(20000)", x.run(20000), 4);
        Due.same("fuel()", x.fuel(), 19999);
    }

    /** What is no run changes nothing, the value and the fuel of the latest run among it. */
    private static void noRun() {
        RowCode x = Due.code(15, 0, 1, 0, 0, 1, 7, 0, 2, 0, 1, 0, 0, 3, 4, 0, 0, 44, 16, 0);
        Due.same("run(9)", x.run(9), 0);
        for (int fuel : new int[] {-1, 20001}) {
            Due.same("run(" + fuel + ")", x.run(fuel), -1);
            Due.same("value() behind no run", x.value(), 44);
            Due.same("fuel() behind no run", x.fuel(), 8);
            Due.same("local(0) behind no run", x.local(0), 1);
            Due.same("word(3) behind no run", x.word(3), 1);
        }
        x.add(13, 200);
        Due.same("run(9) of a wrong code", x.run(9), -1);
        Due.same("value() behind a wrong code", x.value(), 44);
        Due.same("fuel() behind a wrong code", x.fuel(), 8);
        Due.same("local(0) behind a wrong code", x.local(0), 1);
    }

    /** A run needs no build, and takes the code that is there now. */
    private static void codeAsItIs() {
        RowCode x = Due.code(0, 1, 16, 0);
        Due.same("run(0) without build", x.run(0), 0);
        Due.same("value()", x.value(), 1);
        x.clear();
        Due.same("run(0) of nothing", x.run(0), -1);
        Due.addAll(x, 0, 2, 16, 0);
        Due.same("run(0) of another code", x.run(0), 0);
        Due.same("value() of another code", x.value(), 2);
        x.clear();
        Due.addAll(x, 0, 3, 16, 0);
        Due.yes("build()", x.build());
        Due.same("run(0) of a third code", x.run(0), 0);
        Due.same("value() of a third code", x.value(), 3);
        Due.addAll(x, 13, 0, 17, 0);
        Due.same("run(0) with more behind", x.run(0), 0);
        Due.same("value() with more behind", x.value(), 3);
    }

    /** Locals and words go on from run to run; the row does not. */
    private static void stateGoesOn() {
        RowCode x = Due.code(1, 0, 0, 1, 7, 0, 2, 0, 0, 7, 3, 0, 1, 0, 7, 0, 0, 7, 4, 0, 0, 7, 3, 0, 16, 0);
        int sum = 0;
        for (int i = 1; i <= 20; i++) {
            sum += i;
            Due.same("run " + i, x.run(0), 0);
            Due.same("value() of run " + i, x.value(), sum);
            Due.same("local(0) behind run " + i, x.local(0), i);
            Due.same("word(7) behind run " + i, x.word(7), sum);
        }
        x.set(0, 99);
        x.put(7, 1000);
        x.run(0);
        Due.same("value() behind set and put", x.value(), 1100);

        // What a run did ahead of its fault stays done.
        RowCode y = Due.code(0, 5, 2, 1, 0, 6, 0, 2, 4, 0, 1, 9, 3, 0, 16, 0);
        y.set(9, -1);
        Due.same("run(0) with a fault", y.run(0), 2);
        Due.same("local(1) behind the fault", y.local(1), 5);
        Due.same("word(2) behind the fault", y.word(2), 6);
        y.set(9, 2);
        Due.same("run(0) behind the fault", y.run(0), 0);
        Due.same("value() behind the fault", y.value(), 6);
    }

    private static void longRuns() {
        RowCode round = Due.code(13, 0, 15, 0, 1, 0, 0, 1, 7, 0, 2, 0, 10, 0);
        Due.same("run(20000) of a round without end", round.run(20000), 1);
        Due.same("local(0)", round.local(0), 20000);
        Due.same("fuel()", round.fuel(), 0);

        // 20000 times through all of 400 instructions.
        RowCode x = Due.code(13, 0, 15, 0);
        for (int i = 0; i < 99; i++) {
            Due.addAll(x, 1, 0, 0, 1, 7, 0, 2, 0);
        }
        Due.same("add number 399", x.add(10, 0), 399);
        Due.same("run(20000) of a long round", x.run(20000), 1);
        Due.same("local(0) of a long round", x.local(0), 99 * 20000);
    }

    /** 400 instructions, the row up to 60 long. */
    private static void wholeCode() {
        RowCode x = new RowCode();
        for (int round = 0; round < 3; round++) {
            for (int i = 0; i < 60; i++) {
                x.add(i % 2 == 0 ? 1 : 0, i % 2 == 0 ? i % 16 : i);
            }
            for (int i = 0; i < 59; i++) {
                x.add(7, 1);
            }
            x.add(2, round);
        }
        x.add(1, 2);
        x.add(16, 0);
        PlainRow plain = new PlainRow();
        for (int round = 0; round < 3; round++) {
            int row = 0;
            for (int i = 59; i >= 0; i--) {
                int value = i % 2 == 0 ? plain.locals[i % 16] : i;
                row = i == 59 ? value : value - row;
            }
            plain.locals[round] = row;
        }
        Due.same("run(0) of a deep code", x.run(0), 0);
        Due.same("value() of a deep code", x.value(), plain.locals[2]);
        Due.same("local(0) of a deep code", x.local(0), plain.locals[0]);
        Due.same("local(1) of a deep code", x.local(1), plain.locals[1]);
    }
}
