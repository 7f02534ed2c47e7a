@Heading("What it is")
final class WhatItIsTest {
    private WhatItIsTest() {
    }

    public static void main(String[] args) {
        Sentences.holdAll(WhatItIsTest.class);
    }

    @Holds("it does just what the row would do.")
    static void aSumOverALoopIsTheOneOfTheRow() {
        // 10 + 9 + .. + 1: the sum and the count stay on the row from round to round.
        RowCode sum = Codes.of(0, 0, 0, 10, 13, 0, 15, 0, 2, 1, 1, 1, 7, 0, 1, 1, 0, 1, 7, 1, 2, 1, 1, 1, 1, 1, 12, 0,
            14, 0, 16, 0);
        Due.same("run(10) of the sum", sum.run(10), 0);
        Due.same("value() of the sum", sum.value(), 55);
        Due.same("run(9) of the sum", sum.run(9), 1);
    }

    @Holds("An object is used for at most 512 calls after it has been made")
    static void the512thCallIsARunOfAFullCode() {
        RowCode x = new RowCode();
        Codes.addTimes(x, 396, 15, 0);
        Codes.add(x, 1, 0, 5, 0, 16, 0, 17, 0);
        for (int call = 401; call <= 510; call++) {
            Due.same("call " + call, x.run(396), 0);
        }
        Due.same("call 511", x.set(0, 9), 0);
        Due.same("call 512", x.run(400), 0);
    }

    @Holds("An object is used for at most 512 calls after it has been made")
    static void the512thCallTellsTheValueOfTheLongestRuns() {
        RowCode x = Codes.of(13, 0, 15, 0, 1, 0, 0, 1, 7, 1, 2, 0, 1, 0, 12, 0, 1, 0, 16, 0);
        for (int call = 11; call <= 507; call += 3) {
            Due.same("call " + call, x.set(0, 20000), 0);
            Due.same("call " + (call + 1), x.run(20000), 0);
            Due.same("call " + (call + 2), x.fuel(), 0);
        }
        Due.same("call 509", x.value(), 0);
        Due.same("call 510", x.set(0, 20001), 0);
        Due.same("call 511", x.run(20000), 1);
        Due.same("call 512", x.local(0), 1);
    }

    @Holds("An object is used for at most 512 calls after it has been made")
    static void the512thCallRunsTheLastOfManyCodes() {
        RowCode x = new RowCode();
        for (int call = 1; call <= 508; call += 4) {
            x.clear();
            Due.same("call " + (call + 1), x.add(0, call), 1);
            Due.same("call " + (call + 2), x.add(16, 0), 2);
            Due.same("call " + (call + 3), x.run(0), 0);
        }
        Due.same("call 509", x.value(), 505);
        Due.same("call 510", x.add(21, 0), 3);
        Due.no("call 511", x.build());
        Due.same("call 512", x.run(0), -1);
    }

    @Holds("An object is used for at most 512 calls after it has been made")
    static void the512thCallTellsWhatThe511thDid() {
        RowCode x = new RowCode();
        for (int call = 1; call <= 510; call++) {
            Due.same("call " + call, x.put(call % 64, call), Math.max(0, call - 64));
        }
        Due.same("call 511", x.put(63, -7), 447);
        Due.same("call 512", x.word(63), -7);
    }
}
