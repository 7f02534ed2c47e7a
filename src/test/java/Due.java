import java.util.NoSuchElementException;

/** What the tests share: they tell each answer that is not the one due, and end with 1 if there was one. */
final class Due {
    private static int wrong;
    private static int looked;

    private Due() {
    }

    static void same(String what, long got, long want) {
        looked++;
        if (got != want) {
            tell(what + " answered " + got + ", due is " + want);
        }
    }

    static void yes(String what, boolean got) {
        same(what, got ? 1 : 0, 1);
    }

    static void no(String what, boolean got) {
        same(what, got ? 1 : 0, 0);
    }

    static void tell(String fault) {
        wrong++;
        if (wrong <= 40) {
            System.out.println(fault);
        }
    }

    static boolean anyWrong() {
        return wrong > 0;
    }

    static void finish() {
        if (looked == 0) {
            tell("nothing was looked at");
        }
        System.out.println(looked + " answers looked at, " + wrong + " not as due");
        System.exit(wrong == 0 ? 0 : 1);
    }

    /** A new object with the code that the pairs of number and argument tell. */
    static RowCode code(int... pairs) {
        RowCode x = new RowCode();
        addAll(x, pairs);
        return x;
    }

    static void addAll(RowCode x, int... pairs) {
        for (int i = 0; i + 1 < pairs.length; i += 2) {
            x.add(pairs[i], pairs[i + 1]);
        }
    }

    static boolean localThrows(RowCode x, int i) {
        try {
            x.local(i);
            return false;
        } catch (NoSuchElementException e) {
            return e.getClass() == NoSuchElementException.class;
        }
    }

    static boolean wordThrows(RowCode x, int address) {
        try {
            x.word(address);
            return false;
        } catch (NoSuchElementException e) {
            return e.getClass() == NoSuchElementException.class;
        }
    }
}
