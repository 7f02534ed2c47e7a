import java.util.Arrays;
import java.util.NoSuchElementException;

/** A code for a row of values: checked, and run just as the row would. */
public final class RowCode {
    public static final int NONE = -1;

    private static final int MOST_INSTRUCTIONS = 400;
    private static final int MOST_FUEL = 20000;
    private static final int MOST_VALUES = 60;
    private static final int LABELS = 100;

    // The numbers of the row's instructions.
    private static final int NUMBER = 0;
    private static final int FROM_LOCAL = 1;
    private static final int TO_LOCAL = 2;
    private static final int FROM_WORD = 3;
    private static final int TO_WORD = 4;
    private static final int NEGATE = 5;
    private static final int TURN_BITS = 6;
    private static final int CALCULATE = 7;
    private static final int COMPARE = 8;
    private static final int COMPARE_KEEP = 9;
    private static final int GO = 10;
    private static final int GO_IF_ZERO = 11;
    private static final int GO_IF_NOT_ZERO = 12;
    private static final int LABEL = 13;
    private static final int DROP = 14;
    private static final int SPEND = 15;
    private static final int END = 16;
    private static final int STOP = 17;
    private static final int CASE = 18;
    private static final int FROM_BYTE = 19;
    private static final int TO_BYTE = 20;

    private static final int[] TAKES = {0, 0, 1, 1, 2, 1, 1, 2, 2, 2, 0, 1, 1, 0, 1, 0, 1, 0, 1, 2, 3};
    private static final int[] GIVES = {1, 1, 0, 1, 0, 1, 1, 1, 1, 2, 0, 0, 0, 0, 0, 0, 0, 0, 1, 1, 0};
    // The greatest argument of each number; -1 where any argument will do.
    private static final int[] GREATEST =
        {-1, 15, 15, -1, -1, -1, -1, 10, 5, 5, 99, 99, 99, 99, -1, -1, -1, -1, -1, -1, -1};

    // What a run answers.
    private static final int ENDED = 0;
    private static final int NO_FUEL = 1;
    private static final int NO_ADDRESS = 2;
    private static final int DIVIDED_BY_ZERO = 3;
    private static final int STOPPED = 4;

    private final Code code;
    private final Judge judge;
    private final Memory memory;
    private final Plain plain;

    public RowCode() {
        code = new Code();
        judge = new Judge();
        memory = new Memory();
        plain = new Plain(memory);
    }

    public int add(int number, int k) {
        if (code.size() >= MOST_INSTRUCTIONS) {
            return NONE;
        }
        code.append(number, k);
        return code.size();
    }

    public void clear() {
        code.cutTo(0);
    }

    public boolean build() {
        return judge.findsRight(code);
    }

    public int run(int fuel) {
        if (fuel < 0 || fuel > MOST_FUEL || !judge.findsRight(code)) {
            return NONE;
        }
        return plain.execute(code, judge, fuel);
    }

    public int value() {
        return plain.endValue;
    }

    public int fuel() {
        return plain.fuelLeft;
    }

    public int set(int i, int value) {
        if (!Memory.hasLocal(i)) {
            return 0;
        }
        int old = memory.localAt(i);
        memory.changeLocal(i, value);
        return old;
    }

    public int local(int i) throws NoSuchElementException {
        if (!Memory.hasLocal(i)) {
            throw new NoSuchElementException("no such local");
        }
        return memory.localAt(i);
    }

    public int put(int address, int value) {
        if (!Memory.hasWord(address)) {
            return 0;
        }
        int old = memory.wordAt(address);
        memory.changeWord(address, value);
        return old;
    }

    public int word(int address) throws NoSuchElementException {
        if (!Memory.hasWord(address)) {
            throw new NoSuchElementException("no such word");
        }
        return memory.wordAt(address);
    }

    /** A row of numbers that grows; it looks at every index itself. */
    private static final class Numbers {
        private int[] items = new int[16];
        private int count;

        int size() {
            return count;
        }

        int at(int i) {
            return i >= 0 && i < count ? items[i] : NONE;
        }

        void change(int i, int number) {
            if (i >= 0 && i < count) {
                items[i] = number;
            }
        }

        void append(int number) {
            if (count >= items.length) {
                items = Arrays.copyOf(items, 2 * items.length);
            }
            items[count] = number;
            count++;
        }

        int takeLast() {
            int last = at(count - 1);
            cutTo(count - 1);
            return last;
        }

        void cutTo(int size) {
            count = Math.max(0, Math.min(count, size));
        }

        void refill(int size, int number) {
            count = 0;
            for (int i = 0; i < size; i++) {
                append(number);
            }
        }
    }

    /** Instructions of the row. */
    private static final class Code {
        private final Numbers numbers = new Numbers();
        private final Numbers arguments = new Numbers();

        int size() {
            return numbers.size();
        }

        int numberAt(int i) {
            return numbers.at(i);
        }

        int argumentAt(int i) {
            return arguments.at(i);
        }

        void append(int number, int argument) {
            numbers.append(number);
            arguments.append(argument);
        }

        void cutTo(int size) {
            numbers.cutTo(size);
            arguments.cutTo(size);
        }
    }

    /** The locals and the words. */
    private static final class Memory {
        private final int[] locals = new int[16];
        private final int[] words = new int[64];

        static boolean hasLocal(int i) {
            return i >= 0 && i < 16;
        }

        static boolean hasWord(long address) {
            return address >= 0 && address < 64;
        }

        int localAt(int i) {
            return hasLocal(i) ? locals[i] : 0;
        }

        void changeLocal(int i, int number) {
            if (hasLocal(i)) {
                locals[i] = number;
            }
        }

        int wordAt(int address) {
            return hasWord(address) ? words[address] : 0;
        }

        void changeWord(int address, int number) {
            if (hasWord(address)) {
                words[address] = number;
            }
        }
    }

    /** What the numbers 7 and 8 make of two values. */
    private static final class Arithmetic {
        static boolean divides(int k) {
            return k == 3 || k == 4;
        }

        /** A division by 0 is the caller's to find; here it makes 0. */
        static int calculate(int k, int x, int y) {
            switch (k) {
                case 0: return x + y;
                case 1: return x - y;
                case 2: return x * y;
                case 3: return y == 0 ? 0 : x / y;
                case 4: return y == 0 ? 0 : x % y;
                case 5: return x & y;
                case 6: return x | y;
                case 7: return ~(x ^ y);
                case 8: return x ^ y;
                case 9: return y < 0 || y > 31 ? 0 : x << y;
                default: return y < 0 || y > 31 ? 0 : x >>> y;
            }
        }

        static boolean holds(int k, int x, int y) {
            switch (k) {
                case 0: return x == y;
                case 1: return x != y;
                case 2: return x < y;
                case 3: return x <= y;
                case 4: return x > y;
                default: return x >= y;
            }
        }

        static int compare(int k, int x, int y) {
            return holds(k, x, y) ? -1 : 0;
        }
    }

    /** Tells whether a code is right, and how long the row is at each instruction. */
    private static final class Judge {
        private final Numbers places = new Numbers();
        private final Numbers depths = new Numbers();
        private final Numbers waiting = new Numbers();
        private final Numbers comers = new Numbers();

        boolean findsRight(Code code) {
            return code.size() > 0 && argumentsFit(code) && labelsAreOnce(code) && goalsAreThere(code)
                && waysAgree(code) && roundsSpend(code);
        }

        int placeOf(int label) {
            return places.at(label);
        }

        private boolean argumentsFit(Code code) {
            for (int i = 0; i < code.size(); i++) {
                int number = code.numberAt(i);
                if (number < 0 || number >= GREATEST.length) {
                    return false;
                }
                int argument = code.argumentAt(i);
                if (GREATEST[number] >= 0 && (argument < 0 || argument > GREATEST[number])) {
                    return false;
                }
            }
            return true;
        }

        private boolean labelsAreOnce(Code code) {
            places.refill(LABELS, NONE);
            for (int i = 0; i < code.size(); i++) {
                if (code.numberAt(i) == LABEL) {
                    if (placeOf(code.argumentAt(i)) != NONE) {
                        return false;
                    }
                    places.change(code.argumentAt(i), i);
                }
            }
            return true;
        }

        private boolean goalsAreThere(Code code) {
            for (int i = 0; i < code.size(); i++) {
                int number = code.numberAt(i);
                if (number >= GO && number <= GO_IF_NOT_ZERO && placeOf(code.argumentAt(i)) == NONE) {
                    return false;
                }
                if (number == CASE && code.numberAt(i + 1) != GO_IF_NOT_ZERO) {
                    return false;
                }
            }
            return true;
        }

        /** Where the code goes on without a jump; NONE where it does not. */
        private int following(Code code, int i) {
            int number = code.numberAt(i);
            if (number == GO || number == END || number == STOP) {
                return NONE;
            }
            return number == CASE ? i + 2 : i + 1;
        }

        /** Where a jump goes; NONE where there is none. */
        private int goal(Code code, int i) {
            int number = code.numberAt(i);
            if (number == CASE) {
                return placeOf(code.argumentAt(i + 1));
            }
            return number >= GO && number <= GO_IF_NOT_ZERO ? placeOf(code.argumentAt(i)) : NONE;
        }

        private boolean waysAgree(Code code) {
            depths.refill(code.size(), NONE);
            waiting.cutTo(0);
            arrives(0, 0);
            for (int turn = 0; turn < code.size() && waiting.size() > 0; turn++) {
                if (!leavesRightly(code, waiting.takeLast())) {
                    return false;
                }
            }
            return true;
        }

        private boolean leavesRightly(Code code, int i) {
            int number = code.numberAt(i);
            int left = depths.at(i) - takes(number);
            int after = left + gives(number);
            if (left < 0 || after > MOST_VALUES) {
                return false;
            }
            int following = following(code, i);
            if (following != NONE && !arrives(following, after)) {
                return false;
            }
            int goal = goal(code, i);
            return goal == NONE || arrives(goal, number == CASE ? left : after);
        }

        private boolean arrives(int i, int depth) {
            if (i >= depths.size()) {
                return false;
            }
            if (depths.at(i) == NONE) {
                depths.change(i, depth);
                waiting.append(i);
            }
            return depths.at(i) == depth;
        }

        private static int takes(int number) {
            return number >= 0 && number < TAKES.length ? TAKES[number] : 0;
        }

        private static int gives(int number) {
            return number >= 0 && number < GIVES.length ? GIVES[number] : 0;
        }

        /**
         * Takes away, again and again, an instruction that nothing left comes to. What goes round stays;
         * a 15 is never counted, so a round with one falls apart.
         */
        private boolean roundsSpend(Code code) {
            comers.refill(code.size(), 0);
            int left = 0;
            for (int i = 0; i < code.size(); i++) {
                if (counts(code, i)) {
                    left++;
                    countComer(code, following(code, i), 1);
                    countComer(code, goal(code, i), 1);
                }
            }
            waiting.cutTo(0);
            for (int i = 0; i < code.size(); i++) {
                if (counts(code, i) && comers.at(i) == 0) {
                    waiting.append(i);
                }
            }
            for (int turn = 0; turn < code.size() && waiting.size() > 0; turn++) {
                int i = waiting.takeLast();
                left--;
                leave(code, following(code, i));
                leave(code, goal(code, i));
            }
            return left == 0;
        }

        private boolean counts(Code code, int i) {
            return depths.at(i) != NONE && code.numberAt(i) != SPEND;
        }

        private void countComer(Code code, int i, int more) {
            if (counts(code, i)) {
                comers.change(i, comers.at(i) + more);
            }
        }

        private void leave(Code code, int i) {
            countComer(code, i, -1);
            if (counts(code, i) && comers.at(i) == 0) {
                waiting.append(i);
            }
        }
    }

    /** Runs the row's code as it stands. */
    private static final class Plain {
        private static final int GOING = -1;

        private final Memory memory;
        private final Numbers row = new Numbers();
        private int at;
        private int state;
        private int endValue;
        private int fuelLeft;

        Plain(Memory memory) {
            this.memory = memory;
        }

        int execute(Code code, Judge judge, int fuel) {
            row.cutTo(0);
            at = 0;
            endValue = 0;
            fuelLeft = fuel;
            state = GOING;
            // Between two spends no instruction comes twice.
            int bound = (fuel + 2) * (code.size() + 1);
            for (int turn = 0; turn < bound && state == GOING; turn++) {
                int number = code.numberAt(at);
                int argument = code.argumentAt(at);
                at++;
                if (number >= GO) {
                    steer(code, judge, number, argument);
                } else {
                    work(number, argument);
                }
            }
            return state;
        }

        private void work(int number, int k) {
            int y = number <= FROM_LOCAL ? 0 : row.takeLast();
            switch (number) {
                case NUMBER: row.append(k); break;
                case FROM_LOCAL: row.append(memory.localAt(k)); break;
                case TO_LOCAL: memory.changeLocal(k, y); break;
                case FROM_WORD: if (reaches(y)) { row.append(memory.wordAt(y)); } break;
                case TO_WORD: if (reaches(y)) { memory.changeWord(y, row.takeLast()); } break;
                case NEGATE: row.append(-y); break;
                case TURN_BITS: row.append(~y); break;
                case CALCULATE:
                    if (y == 0 && Arithmetic.divides(k)) {
                        state = DIVIDED_BY_ZERO;
                    } else {
                        row.append(Arithmetic.calculate(k, row.takeLast(), y));
                    }
                    break;
                case COMPARE: row.append(Arithmetic.compare(k, row.takeLast(), y)); break;
                default:
                    int x = row.takeLast();
                    row.append(y);
                    row.append(Arithmetic.compare(k, x, y));
                    break;
            }
        }

        private boolean reaches(long address) {
            if (!Memory.hasWord(address)) {
                state = NO_ADDRESS;
            }
            return Memory.hasWord(address);
        }

        private void steer(Code code, Judge judge, int number, int k) {
            switch (number) {
                case GO: at = judge.placeOf(k); break;
                case GO_IF_ZERO: if (row.takeLast() == 0) { at = judge.placeOf(k); } break;
                case GO_IF_NOT_ZERO: if (row.takeLast() != 0) { at = judge.placeOf(k); } break;
                case DROP: row.takeLast(); break;
                case SPEND:
                    if (fuelLeft == 0) {
                        state = NO_FUEL;
                    } else {
                        fuelLeft--;
                    }
                    break;
                case END: endValue = row.takeLast(); state = ENDED; break;
                case STOP: state = STOPPED; break;
                case CASE:
                    if (row.at(row.size() - 1) == k) {
                        row.takeLast();
                        at = judge.placeOf(code.argumentAt(at));
                    } else {
                        at++;
                    }
                    break;
                case FROM_BYTE:
                case TO_BYTE: touchByte(number); break;
                default: break;
            }
        }

        private void touchByte(int number) {
            int y = row.takeLast();
            int x = row.takeLast();
            int v = number == TO_BYTE ? row.takeLast() : 0;
            long address = (long) x + (y >> 2);
            if (reaches(address)) {
                int shift = 8 * (y & 3);
                int old = memory.wordAt((int) address);
                if (number == TO_BYTE) {
                    memory.changeWord((int) address, old & ~(255 << shift) | (v & 255) << shift);
                } else {
                    row.append(old >>> shift & 255);
                }
            }
        }
    }
}
