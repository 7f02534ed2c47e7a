import java.util.List;

/** A RowCode and a PlainRow that get the same calls: each answer of the one is held against the other's. */
final class SideBySide {
    private static final int CALLS_OF_A_RUN = 3 + 16 + 64;
    private RowCode x = new RowCode();
    private PlainRow plain = new PlainRow();
    private int calls;

    /** Both get this code; one object is used for one code behind the other, as long as 512 calls allow it. */
    void load(List<int[]> code, int runs, int setsAndPuts) {
        int more = 2 + code.size() + runs * (CALLS_OF_A_RUN + setsAndPuts);
        calls += more;
        if (calls > 512) {
            x = new RowCode();
            plain = new PlainRow();
            calls = more;
        }
        x.clear();
        plain.code.clear();
        for (int[] c : code) {
            x.add(c[0], c[1]);
            plain.code.add(c);
        }
    }

    /** Whether the code is right by the document's words. */
    boolean isRight() {
        return plain.right();
    }

    void build() {
        same("build", 0, x.build() ? 1 : 0, plain.right() ? 1 : 0);
    }

    void set(int i, int value) {
        same("set", i, x.set(i, value), plain.locals[i]);
        plain.locals[i] = value;
    }

    void put(int address, int value) {
        same("put", address, x.put(address, value), plain.words[address]);
        plain.words[address] = value;
    }

    /** Runs both, and looks at all that the run has left; what it answered. */
    int run(int fuel) {
        int answer = plain.run(fuel);
        same("run", fuel, x.run(fuel), answer);
        same("value behind run", fuel, x.value(), plain.value);
        same("fuel behind run", fuel, x.fuel(), plain.fuel);
        for (int i = 0; i < 16; i++) {
            same("local", i, x.local(i), plain.locals[i]);
        }
        for (int i = 0; i < 64; i++) {
            same("word", i, x.word(i), plain.words[i]);
        }
        return answer;
    }

    private void same(String call, int argument, long got, long want) {
        Due.same(got == want ? call : call + "(" + argument + ") of " + plain, got, want);
    }

    @Override
    public String toString() {
        return plain.toString();
    }
}
