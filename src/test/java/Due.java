import java.util.NoSuchElementException;

/** What the tests share: they tell each answer that is not the one due, and end with 1 if there was one. */
final class Due {
    private static final long MOST_SECONDS = 120;
    private static int wrong;
    private static int looked;
    private static volatile String test = "the test";
    private static volatile long since = System.nanoTime();

    static {
        Thread watch = new Thread(Due::endInTime);
        watch.setDaemon(true);
        watch.start();
    }

    private Due() {
    }

    /** From here on this test has its time. */
    static void begin(String name) {
        test = name;
        since = System.nanoTime();
    }

    /** A call that never ends must fail its test, and not keep it going for ever. */
    private static void endInTime() {
        while (System.nanoTime() - since < MOST_SECONDS * 1_000_000_000L) {
            try {
                Thread.sleep(500);
            } catch (InterruptedException e) {
                return;
            }
        }
        System.out.println("  BROKEN  it did not end in " + MOST_SECONDS + " seconds: " + test);
        System.out.flush();
        Runtime.getRuntime().halt(1);
    }

    static void same(String what, long got, long want) {
        looked++;
        if (got != want) {
            tell(what + " answered " + got + ", due is " + want);
        }
    }

    static void yes(String what, boolean got) {
        same(what, got ? 1 : 0, 1);
    }

    static void no(String what, boolean got) {
        same(what, got ? 1 : 0, 0);
    }

    static void tell(String fault) {
        wrong++;
        if (wrong <= 40) {
            System.out.println(fault);
        }
    }

    static int wrong() {
        return wrong;
    }

    static int looked() {
        return looked;
    }

    static void finish() {
        if (looked == 0) {
            tell("nothing was looked at");
        }
        System.out.println(looked + " answers looked at, " + wrong + " not as due");
        System.exit(wrong == 0 ? 0 : 1);
    }

    static void throwsForLocal(RowCode x, int i) {
        boolean threw = false;
        try {
            x.local(i);
        } catch (NoSuchElementException e) {
            threw = e.getClass() == NoSuchElementException.class;
        }
        yes("local(" + i + ") throws NoSuchElementException", threw);
    }

    static void throwsForWord(RowCode x, int address) {
        boolean threw = false;
        try {
            x.word(address);
        } catch (NoSuchElementException e) {
            threw = e.getClass() == NoSuchElementException.class;
        }
        yes("word(" + address + ") throws NoSuchElementException", threw);
    }

    /** Looks at all that an object tells of its state. */
    static void state(String when, RowCode x, int value, int fuel, int[] locals, int[] words) {
        same("value() " + when, x.value(), value);
        same("fuel() " + when, x.fuel(), fuel);
        for (int i = 0; i < 16; i++) {
            same("local(" + i + ") " + when, x.local(i), i < locals.length ? locals[i] : 0);
        }
        for (int i = 0; i < 64; i++) {
            same("word(" + i + ") " + when, x.word(i), i < words.length ? words[i] : 0);
        }
    }
}
