import java.lang.management.ManagementFactory;
import java.util.List;

/** What an object takes of the room: the rows that it has made once are used again. */
final class RoomTest {
    private RoomTest() {
    }

    private static long taken() {
        com.sun.management.ThreadMXBean bean =
            (com.sun.management.ThreadMXBean) ManagementFactory.getThreadMXBean();
        return bean.getThreadAllocatedBytes(Thread.currentThread().getId());
    }

    private static void useAnew(RowCode x, List<int[]> code) {
        x.clear();
        for (int i = 0; i < code.size(); i++) {
            x.add(code.get(i)[0], code.get(i)[1]);
        }
        x.build();
        x.run(20);
    }

    public static void main(String[] args) {
        List<int[]> code = new CodeMaker(7).right(300);
        RowCode warm = new RowCode();
        useAnew(warm, code);
        taken();

        long before = taken();
        RowCode x = new RowCode();
        long made = taken() - before;
        useAnew(x, code);
        long first = taken() - before;
        for (int i = 0; i < 512; i++) {
            useAnew(x, code);
        }
        long all = taken() - before;
        System.out.println(made + " bytes for a new object, " + first + " behind a first run, " + all + " behind many");
        Due.yes("a new object is small", made < 20000);
        Due.yes("a first run makes rows of some thousand numbers", first < 400000);
        Due.yes("later runs make nothing", all - first < 5000);
        Due.finish();
    }
}
