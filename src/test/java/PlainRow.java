import java.util.ArrayDeque;
import java.util.ArrayList;
import java.util.Arrays;
import java.util.Deque;
import java.util.HashMap;
import java.util.HashSet;
import java.util.List;
import java.util.Map;
import java.util.Set;

/** The document's words in their plainest form, for tests to hold RowCode against: it runs the row itself. */
final class PlainRow {
    final List<int[]> code = new ArrayList<>();
    final int[] locals = new int[16];
    final int[] words = new int[64];
    int value;
    int fuel;

    private final Map<Integer, Integer> labels = new HashMap<>();
    private final Map<Integer, Integer> lengths = new HashMap<>();

    private boolean argumentFits(int number, int k) {
        switch (number) {
            case 1: case 2: return k >= 0 && k <= 15;
            case 7: return k >= 0 && k <= 10;
            case 8: case 9: return k >= 0 && k <= 5;
            case 13: return k >= 0 && k <= 99;
            default: return number >= 0 && number <= 20;
        }
    }

    boolean right() {
        labels.clear();
        lengths.clear();
        if (code.isEmpty()) {
            return false;
        }
        for (int i = 0; i < code.size(); i++) {
            int[] c = code.get(i);
            if (!argumentFits(c[0], c[1])) {
                return false;
            }
            if (c[0] == 13 && labels.put(c[1], i) != null) {
                return false;
            }
        }
        for (int i = 0; i < code.size(); i++) {
            int[] c = code.get(i);
            if ((c[0] == 10 || c[0] == 11 || c[0] == 12) && !labels.containsKey(c[1])) {
                return false;
            }
            if (c[0] == 18 && (i + 1 == code.size() || code.get(i + 1)[0] != 12)) {
                return false;
            }
        }
        return waysAreRight() && nothingGoesRoundFree();
    }

    /** The places that instruction i goes on at, each with the row's length there; null if it takes too much. */
    private List<int[]> ways(int i, int length) {
        int number = code.get(i)[0];
        int k = code.get(i)[1];
        List<int[]> ways = new ArrayList<>();
        int needs = number == 20 ? 3
            : number == 4 || number == 7 || number == 8 || number == 9 || number == 19 ? 2
            : number == 0 || number == 1 || number == 10 || number == 13 || number == 15 || number == 17 ? 0 : 1;
        if (length < needs) {
            return null;
        }
        switch (number) {
            case 0: case 1: ways.add(new int[] {i + 1, length + 1}); break;
            case 2: case 7: case 8: case 14: case 19: ways.add(new int[] {i + 1, length - 1}); break;
            case 4: ways.add(new int[] {i + 1, length - 2}); break;
            case 20: ways.add(new int[] {i + 1, length - 3}); break;
            case 10: ways.add(new int[] {labels.get(k), length}); break;
            case 11: case 12:
                ways.add(new int[] {i + 1, length - 1});
                ways.add(new int[] {labels.get(k), length - 1});
                break;
            case 16: case 17: break;
            case 18:
                ways.add(new int[] {i + 2, length});
                ways.add(new int[] {labels.get(code.get(i + 1)[1]), length - 1});
                break;
            default: ways.add(new int[] {i + 1, length}); break;
        }
        return ways;
    }

    private boolean waysAreRight() {
        Deque<int[]> open = new ArrayDeque<>();
        open.add(new int[] {0, 0});
        while (!open.isEmpty()) {
            int[] way = open.remove();
            if (way[0] >= code.size() || way[1] > 60) {
                return false;
            }
            Integer known = lengths.putIfAbsent(way[0], way[1]);
            if (known != null) {
                if (known != way[1]) {
                    return false;
                }
                continue;
            }
            List<int[]> ways = ways(way[0], way[1]);
            if (ways == null) {
                return false;
            }
            open.addAll(ways);
        }
        return true;
    }

    /** From each instruction that is come to, looks whether it is come to again with no 15 between. */
    private boolean nothingGoesRoundFree() {
        for (int start : lengths.keySet()) {
            Set<Integer> seen = new HashSet<>();
            Deque<Integer> open = new ArrayDeque<>();
            open.add(start);
            while (!open.isEmpty()) {
                int i = open.remove();
                if (code.get(i)[0] == 15) {
                    continue;
                }
                for (int[] way : ways(i, lengths.get(i))) {
                    if (way[0] == start) {
                        return false;
                    }
                    if (seen.add(way[0])) {
                        open.add(way[0]);
                    }
                }
            }
        }
        return true;
    }

    int run(int fuelGiven) {
        if (fuelGiven < 0 || fuelGiven > 20000 || !right()) {
            return -1;
        }
        value = 0;
        fuel = fuelGiven;
        int[] row = new int[61];
        int n = 0;
        int i = 0;
        while (true) {
            int number = code.get(i)[0];
            int k = code.get(i)[1];
            int y = n > 0 ? row[n - 1] : 0;
            int x = n > 1 ? row[n - 2] : 0;
            int v = n > 2 ? row[n - 3] : 0;
            i++;
            switch (number) {
                case 0: row[n++] = k; break;
                case 1: row[n++] = locals[k]; break;
                case 2: locals[k] = y; n--; break;
                case 3:
                    if (y < 0 || y > 63) {
                        return 2;
                    }
                    row[n - 1] = words[y];
                    break;
                case 4:
                    if (y < 0 || y > 63) {
                        return 2;
                    }
                    words[y] = x;
                    n -= 2;
                    break;
                case 5: row[n - 1] = 0 - y; break;
                case 6: row[n - 1] = -1 - y; break;
                case 7:
                    if ((k == 3 || k == 4) && y == 0) {
                        return 3;
                    }
                    n--;
                    row[n - 1] = calculated(k, x, y);
                    break;
                case 8: n--; row[n - 1] = compared(k, x, y); break;
                case 9: row[n - 2] = y; row[n - 1] = compared(k, x, y); break;
                case 10: i = labels.get(k); break;
                case 11: n--; i = y == 0 ? labels.get(k) : i; break;
                case 12: n--; i = y != 0 ? labels.get(k) : i; break;
                case 13: break;
                case 14: n--; break;
                case 15:
                    if (fuel == 0) {
                        return 1;
                    }
                    fuel--;
                    break;
                case 16: value = y; return 0;
                case 17: return 4;
                case 18:
                    if (y == k) {
                        n--;
                        i = labels.get(code.get(i)[1]);
                    } else {
                        i++;
                    }
                    break;
                default: {
                    long address = (long) x + Math.floorDiv(y, 4);
                    if (address < 0 || address > 63) {
                        return 2;
                    }
                    int low = Math.floorMod(y, 4) * 8;
                    int word = words[(int) address];
                    if (number == 19) {
                        n--;
                        row[n - 1] = (word >> low) & 255;
                    } else {
                        words[(int) address] = (word & ~(255 << low)) | ((v & 255) << low);
                        n -= 3;
                    }
                    break;
                }
            }
        }
    }

    private static int calculated(int k, int x, int y) {
        switch (k) {
            case 0: return (int) ((long) x + y);
            case 1: return (int) ((long) x - y);
            case 2: return (int) ((long) x * y);
            case 3: return (int) ((long) x / y);
            case 4: return (int) ((long) x % y);
            case 5: return x & y;
            case 6: return x | y;
            case 7: return (x & y) | (~x & ~y);
            case 8: return (x & ~y) | (~x & y);
            case 9: return y < 0 || y > 31 ? 0 : (int) ((long) x << y);
            default: return y < 0 || y > 31 ? 0 : (int) ((x & 0xffffffffL) >> y);
        }
    }

    private static int compared(int k, int x, int y) {
        boolean[] holds = {x == y, x != y, x < y, x <= y, x > y, x >= y};
        return holds[k] ? -1 : 0;
    }

    @Override
    public String toString() {
        StringBuilder text = new StringBuilder();
        for (int[] c : code) {
            text.append(Arrays.toString(c));
        }
        return text.toString();
    }
}
