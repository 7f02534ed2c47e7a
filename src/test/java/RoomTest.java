import java.lang.management.ManagementFactory;
import java.util.List;

/** All that the 512 calls of an object make has its place in the room that they share. */
final class RoomTest {
    private static final int CALLS = 512;
    // 7.3 million fields and elements of four bytes.
    private static final long ROOM = 4 * 7_300_000L;

    private RoomTest() {
    }

    private static long taken() {
        com.sun.management.ThreadMXBean bean =
            (com.sun.management.ThreadMXBean) ManagementFactory.getThreadMXBean();
        return bean.getThreadAllocatedBytes(Thread.currentThread().getId());
    }

    /** A long code, judged and run over and over. */
    private static void runsOften(List<int[]> code) {
        RowCode x = new RowCode();
        for (int i = 0; i < CALLS; i++) {
            if (i < code.size()) {
                x.add(code.get(i)[0], code.get(i)[1]);
            } else if (i % 2 == 0) {
                x.build();
            } else {
                x.run(20);
            }
        }
    }

    /** A code that changes ahead of each build and each run. */
    private static void changesOften() {
        RowCode x = Codes.of(0, 1, 16, 0);
        for (int i = 2; i + 1 < CALLS; i += 2) {
            x.add(i % 5, 0);
            if (i % 4 == 0) {
                x.build();
            } else {
                x.run(20000);
            }
        }
    }

    /** A code with labels that changes, and so is loaded anew, ahead of each run. */
    private static void loadsOften(List<int[]> code) {
        RowCode x = new RowCode();
        for (int[] c : code) {
            x.add(c[0], c[1]);
        }
        for (int i = code.size(); i + 1 < CALLS; i += 2) {
            x.add(17, 0);
            Due.yes("run(20) is a run", x.run(20) != -1);
        }
    }

    /** Many short codes, one behind the other. */
    private static void clearsOften() {
        RowCode x = new RowCode();
        for (int i = 0; i + 3 < CALLS; i += 4) {
            x.clear();
            x.add(0, i);
            x.add(16, 0);
            x.run(0);
        }
    }

    /** Calls that throw or are refused. */
    private static void refusesOften() {
        RowCode x = new RowCode();
        for (int i = 0; i + 1 < CALLS; i += 2) {
            Due.throwsForLocal(x, 16 + i);
            Due.throwsForWord(x, -1 - i);
        }
    }

    private static void isInside(String what, long before) {
        long bytes = taken() - before;
        System.out.println(bytes + " bytes for " + what);
        Due.yes("the room is enough for " + what, bytes <= ROOM);
    }

    public static void main(String[] args) {
        List<int[]> code = new CodeMaker(7).right(300);
        taken();
        long before = taken();
        runsOften(code);
        isInside("many runs of one code", before);
        before = taken();
        changesOften();
        isInside("many changes of a code", before);
        for (int seed = 1; seed <= 8; seed++) {
            List<int[]> changing = new CodeMaker(seed).right(100);
            before = taken();
            loadsOften(changing);
            isInside("many loads of code " + seed, before);
        }
        before = taken();
        clearsOften();
        isInside("many codes", before);
        before = taken();
        refusesOften();
        isInside("many refused calls", before);
        Due.finish();
    }
}
