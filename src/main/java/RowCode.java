import java.util.Arrays;
import java.util.NoSuchElementException;

/**
 * A code for a row of values: judged, made better, turned into a code of two registers, written out as words,
 * loaded and run. It does just what the row would do.
 */
public final class RowCode {
    public static final int NONE = -1;

    private static final int MOST_INSTRUCTIONS = 400;
    private static final int MOST_FUEL = 20000;
    private static final int MOST_VALUES = 60;
    private static final int LABELS = 100;
    private static final int LOCALS = 16;
    private static final int WORDS = 64;

    // The numbers of the row's instructions.
    private static final int NUMBER = 0;
    private static final int FROM_LOCAL = 1;
    private static final int TO_LOCAL = 2;
    private static final int FROM_WORD = 3;
    private static final int TO_WORD = 4;
    private static final int NEGATE = 5;
    private static final int TURN_BITS = 6;
    private static final int CALCULATE = 7;
    private static final int COMPARE = 8;
    private static final int COMPARE_KEEP = 9;
    private static final int GO = 10;
    private static final int GO_IF_ZERO = 11;
    private static final int GO_IF_NOT_ZERO = 12;
    private static final int LABEL = 13;
    private static final int DROP = 14;
    private static final int SPEND = 15;
    private static final int END = 16;
    private static final int STOP = 17;
    private static final int CASE = 18;
    private static final int FROM_BYTE = 19;
    private static final int TO_BYTE = 20;

    // For each of these numbers: how many values it takes, how many it gives back, and its greatest argument
    // (-1 where any argument will do).
    private static final int[] TAKES = {0, 0, 1, 1, 2, 1, 1, 2, 2, 2, 0, 1, 1, 0, 1, 0, 1, 0, 1, 2, 3};
    private static final int[] GIVES = {1, 1, 0, 1, 0, 1, 1, 1, 1, 2, 0, 0, 0, 0, 0, 0, 0, 0, 1, 1, 0};
    private static final int[] GREATEST =
        {-1, 15, 15, -1, -1, -1, -1, 10, 5, 5, 99, 99, 99, 99, -1, -1, -1, -1, -1, -1, -1};

    // The numbers of the two registers' code. A load puts what was in A into B.
    private static final int MARK = 0;
    private static final int LOAD_NUMBER = 1;
    private static final int LOAD_LOCAL = 2;
    private static final int LOAD_SLOT = 3;
    private static final int KEEP_A = 4;
    private static final int KEEP_B = 5;
    private static final int SWAP = 6;
    private static final int STORE_LOCAL = 7;
    private static final int FETCH = 8;
    private static final int STORE = 9;
    private static final int MINUS = 10;
    private static final int FLIP = 11;
    private static final int COMBINE = 12;
    private static final int RELATE = 13;
    private static final int RELATE_KEEP = 14;
    private static final int FETCH_BYTE = 15;
    private static final int STORE_BYTE = 16;
    private static final int PAY = 17;
    private static final int FINISH = 18;
    private static final int HALT = 19;
    // From here on the argument is a label, and the place of that label once the code is loaded.
    private static final int JUMP = 20;
    private static final int JUMP_IF_ZERO = 21;
    private static final int JUMP_IF_NOT_ZERO = 22;
    // Six of them, one for each way of comparing B with A.
    private static final int JUMP_IF = 23;

    // A word holds an argument of 24 bits and a number of 7; a longer argument has the next word to itself.
    private static final int SHORT_ARGUMENT = 1 << 23;
    private static final int ARGUMENT_SHIFT = 8;
    private static final int LONG_MARK = 128;
    private static final int NUMBER_MASK = 127;

    // What a run answers.
    private static final int ENDED = 0;
    private static final int NO_FUEL = 1;
    private static final int NO_ADDRESS = 2;
    private static final int DIVIDED_BY_ZERO = 3;
    private static final int STOPPED = 4;

    private final Code code;
    private final Judge judge;
    private final Improver improver;
    private final Translator translator;
    private final Program program;
    private final Memory memory;
    private final Machine machine;
    private boolean isLoaded;

    public RowCode() {
        code = new Code();
        judge = new Judge(code);
        improver = new Improver();
        translator = new Translator();
        program = new Program();
        memory = new Memory();
        machine = new Machine(memory);
    }

    public int add(int number, int k) {
        if (code.size() >= MOST_INSTRUCTIONS) {
            return NONE;
        }
        code.append(number, k);
        forgetWork();
        return code.size();
    }

    public void clear() {
        code.cutTo(0);
        forgetWork();
    }

    public boolean build() {
        return judge.findsRight();
    }

    public int run(int fuel) {
        if (fuel < 0 || fuel > MOST_FUEL || !judge.findsRight()) {
            return NONE;
        }
        if (!isLoaded) {
            Code better = improver.improve(code, judge);
            program.load(translator.translate(better, judge));
            isLoaded = true;
        }
        return machine.execute(program, fuel);
    }

    public int value() {
        return machine.endValue;
    }

    public int fuel() {
        return machine.fuelLeft;
    }

    public int set(int i, int value) {
        int old = memory.localAt(i);
        memory.changeLocal(i, value);
        return old;
    }

    public int local(int i) throws NoSuchElementException {
        if (!Memory.hasLocal(i)) {
            throw new NoSuchElementException("no such local");
        }
        return memory.localAt(i);
    }

    public int put(int address, int value) {
        int old = memory.wordAt(address);
        memory.changeWord(address, value);
        return old;
    }

    public int word(int address) throws NoSuchElementException {
        if (!Memory.hasWord(address)) {
            throw new NoSuchElementException("no such word");
        }
        return memory.wordAt(address);
    }

    private void forgetWork() {
        judge.forgetJudgement();
        isLoaded = false;
    }

    private static boolean isCondition(int number) {
        return number == GO_IF_ZERO || number == GO_IF_NOT_ZERO;
    }

    private static boolean goesToLabel(int number) {
        return number == GO || isCondition(number);
    }

    private static boolean endsWay(int number) {
        return number == GO || number == END || number == STOP;
    }

    /** A row of numbers that grows; it looks at every index itself. */
    private static final class Numbers {
        private int[] items = new int[16];
        private int count;

        int size() {
            return count;
        }

        int at(int i) {
            return i >= 0 && i < count ? items[i] : NONE;
        }

        void change(int i, int number) {
            if (i >= 0 && i < count) {
                items[i] = number;
            }
        }

        void append(int number) {
            if (count >= items.length) {
                items = Arrays.copyOf(items, 2 * items.length);
            }
            items[count] = number;
            count++;
        }

        int takeLast() {
            if (count <= 0) {
                return NONE;
            }
            count--;
            return items[count];
        }

        void cutTo(int size) {
            if (size < count) {
                count = size < 0 ? 0 : size;
            }
        }

        void refill(int size, int number) {
            count = 0;
            for (int i = 0; i < size; i++) {
                append(number);
            }
        }
    }

    /** Instructions of the row. */
    private static final class Code {
        private final Numbers numbers = new Numbers();
        private final Numbers arguments = new Numbers();

        int size() {
            return numbers.size();
        }

        int numberAt(int i) {
            return numbers.at(i);
        }

        int argumentAt(int i) {
            return arguments.at(i);
        }

        void append(int number, int argument) {
            numbers.append(number);
            arguments.append(argument);
        }

        void cutTo(int size) {
            numbers.cutTo(size);
            arguments.cutTo(size);
        }

        /** The number of the last instruction, or of one that many ahead of it. */
        int lastNumber(int back) {
            return numbers.at(numbers.size() - 1 - back);
        }

        int lastArgument(int back) {
            return arguments.at(arguments.size() - 1 - back);
        }

        void cutLast() {
            numbers.takeLast();
            arguments.takeLast();
        }

        void replaceLast(int count, int number, int argument) {
            numbers.cutTo(numbers.size() - count);
            arguments.cutTo(arguments.size() - count);
            numbers.append(number);
            arguments.append(argument);
        }
    }

    /** The locals and the words; one that is not there reads as 0 and takes nothing. */
    private static final class Memory {
        private final int[] locals = new int[LOCALS];
        private final int[] words = new int[WORDS];

        static boolean hasLocal(int i) {
            return i >= 0 && i < LOCALS;
        }

        static boolean hasWord(long address) {
            return address >= 0 && address < WORDS;
        }

        int localAt(int i) {
            return hasLocal(i) ? locals[i] : 0;
        }

        void changeLocal(int i, int number) {
            if (hasLocal(i)) {
                locals[i] = number;
            }
        }

        int wordAt(int address) {
            return hasWord(address) ? words[address] : 0;
        }

        void changeWord(int address, int number) {
            if (hasWord(address)) {
                words[address] = number;
            }
        }
    }

    /** What the numbers 7 and 8 make of two values, and what is known of that. */
    private static final class Arithmetic {
        static boolean divides(int k) {
            return k == 3 || k == 4;
        }

        /** A division by 0 is the caller's to find; here it makes 0. */
        static int calculate(int k, int x, int y) {
            switch (k) {
                case 0: return x + y;
                case 1: return x - y;
                case 2: return x * y;
                case 3: return y == 0 ? 0 : x / y;
                case 4: return y == 0 ? 0 : x % y;
                case 5: return x & y;
                case 6: return x | y;
                case 7: return ~(x ^ y);
                case 8: return x ^ y;
                case 9: return y < 0 || y > 31 ? 0 : x << y;
                default: return y < 0 || y > 31 ? 0 : x >>> y;
            }
        }

        static boolean commutes(int k) {
            return k == 0 || k == 2 || k >= 5 && k <= 8;
        }

        /** Whether this calculation with y leaves every x as it is. */
        static boolean leavesAlone(int k, int y) {
            switch (k) {
                case 2:
                case 3: return y == 1;
                case 4: return false;
                case 5:
                case 7: return y == -1;
                default: return y == 0;
            }
        }

        static boolean holds(int k, int x, int y) {
            switch (k) {
                case 0: return x == y;
                case 1: return x != y;
                case 2: return x < y;
                case 3: return x <= y;
                case 4: return x > y;
                default: return x >= y;
            }
        }

        static int compare(int k, int x, int y) {
            return holds(k, x, y) ? -1 : 0;
        }

        /** The way of comparing that holds when this one does not. */
        static int opposite(int k) {
            return k < 2 ? 1 - k : 7 - k;
        }

        /** The way of comparing y with x that holds when this one holds for x and y. */
        static int mirrored(int k) {
            if (k < 2) {
                return k;
            }
            return k < 4 ? k + 2 : k - 2;
        }
    }

    /** Tells whether a code is right, and how long the row is where its ways come. */
    private static final class Judge {
        private final Code code;
        private final Numbers places = new Numbers();
        private final Numbers depths = new Numbers();
        private final Numbers comers = new Numbers();
        private final Numbers waiting = new Numbers();
        private boolean isJudged;
        private boolean isRight;

        Judge(Code code) {
            this.code = code;
        }

        void forgetJudgement() {
            isJudged = false;
        }

        boolean findsRight() {
            if (!isJudged) {
                isRight = code.size() > 0 && argumentsFit() && labelsAreOnce() && goalsAreThere() && waysAgree()
                    && roundsSpend();
                isJudged = true;
            }
            return isRight;
        }

        boolean isReached(int i) {
            return depths.at(i) != NONE;
        }

        int depthAtLabel(int label) {
            return depths.at(places.at(label));
        }

        private boolean argumentsFit() {
            for (int i = 0; i < code.size(); i++) {
                int number = code.numberAt(i);
                if (number < 0 || number >= GREATEST.length) {
                    return false;
                }
                int argument = code.argumentAt(i);
                int greatest = GREATEST[number];
                if (greatest >= 0 && (argument < 0 || argument > greatest)) {
                    return false;
                }
            }
            return true;
        }

        private boolean labelsAreOnce() {
            places.refill(LABELS, NONE);
            for (int i = 0; i < code.size(); i++) {
                if (code.numberAt(i) == LABEL) {
                    int label = code.argumentAt(i);
                    if (places.at(label) != NONE) {
                        return false;
                    }
                    places.change(label, i);
                }
            }
            return true;
        }

        private boolean goalsAreThere() {
            for (int i = 0; i < code.size(); i++) {
                int number = code.numberAt(i);
                if (goesToLabel(number) && places.at(code.argumentAt(i)) == NONE) {
                    return false;
                }
                if (number == CASE && code.numberAt(i + 1) != GO_IF_NOT_ZERO) {
                    return false;
                }
            }
            return true;
        }

        /** Where the code goes on without a jump; NONE where it does not. */
        private int following(int i) {
            int number = code.numberAt(i);
            if (endsWay(number)) {
                return NONE;
            }
            return number == CASE ? i + 2 : i + 1;
        }

        /** Where a jump goes; NONE where there is none. */
        private int goal(int i) {
            int number = code.numberAt(i);
            if (number == CASE) {
                return places.at(code.argumentAt(i + 1));
            }
            return goesToLabel(number) ? places.at(code.argumentAt(i)) : NONE;
        }

        private boolean waysAgree() {
            depths.refill(code.size(), NONE);
            waiting.cutTo(0);
            arrives(0, 0);
            // An instruction waits once at most, so there are no more turns than instructions.
            for (int turn = 0; turn < code.size() && waiting.size() > 0; turn++) {
                if (!leavesRightly(waiting.takeLast())) {
                    return false;
                }
            }
            return true;
        }

        private boolean leavesRightly(int i) {
            int number = code.numberAt(i);
            if (number < 0 || number >= TAKES.length || number >= GIVES.length) {
                return false;
            }
            int left = depths.at(i) - TAKES[number];
            int after = left + GIVES[number];
            if (left < 0 || after > MOST_VALUES) {
                return false;
            }
            int following = following(i);
            if (following != NONE && !arrives(following, after)) {
                return false;
            }
            int goal = goal(i);
            // By its jump an 18 takes the top and gives nothing back.
            return goal == NONE || arrives(goal, left);
        }

        private boolean arrives(int i, int depth) {
            if (i >= depths.size()) {
                return false;
            }
            if (depths.at(i) == NONE) {
                depths.change(i, depth);
                waiting.append(i);
            }
            return depths.at(i) == depth;
        }

        /**
         * Takes away, again and again, an instruction that nothing left comes to; what goes round stays.
         * A 15 is left out from the first, so a round with one in it falls apart.
         */
        private boolean roundsSpend() {
            comers.refill(code.size(), 0);
            int left = 0;
            for (int i = 0; i < code.size(); i++) {
                if (isFree(i)) {
                    left++;
                    countComer(following(i));
                    countComer(goal(i));
                }
            }
            waiting.cutTo(0);
            for (int i = 0; i < code.size(); i++) {
                if (isFree(i) && comers.at(i) == 0) {
                    waiting.append(i);
                }
            }
            for (int turn = 0; turn < code.size() && waiting.size() > 0; turn++) {
                int i = waiting.takeLast();
                left--;
                loseComer(following(i));
                loseComer(goal(i));
            }
            return left == 0;
        }

        /** Whether a way comes here and spends nothing by it. */
        private boolean isFree(int i) {
            return depths.at(i) != NONE && code.numberAt(i) != SPEND;
        }

        private void countComer(int i) {
            if (isFree(i)) {
                comers.change(i, comers.at(i) + 1);
            }
        }

        private void loseComer(int i) {
            if (isFree(i)) {
                comers.change(i, comers.at(i) - 1);
                if (comers.at(i) == 0) {
                    waiting.append(i);
                }
            }
        }
    }

    /** Makes a right code shorter; each step of it leaves what the code does as it is. */
    private static final class Improver {
        private static final int PASSES = 4;

        private final Numbers places = new Numbers();
        private final Numbers uses = new Numbers();
        private Code from = new Code();
        private Code into = new Code();

        Code improve(Code code, Judge judge) {
            copyReached(code, judge);
            // One pass makes room for another: a jump that went leaves a label that nothing goes to.
            for (int pass = 0; pass < PASSES; pass++) {
                Code spare = from;
                from = into;
                into = spare;
                findPlaces();
                countUses();
                rewrite();
            }
            return into;
        }

        private void copyReached(Code code, Judge judge) {
            into.cutTo(0);
            for (int i = 0; i < code.size(); i++) {
                boolean isOfCase = code.numberAt(i - 1) == CASE && judge.isReached(i - 1);
                if (isOfCase || judge.isReached(i)) {
                    into.append(code.numberAt(i), code.argumentAt(i));
                }
            }
        }

        private void findPlaces() {
            places.refill(LABELS, NONE);
            for (int i = 0; i < from.size(); i++) {
                if (from.numberAt(i) == LABEL) {
                    places.change(from.argumentAt(i), i);
                }
            }
        }

        private void countUses() {
            uses.refill(LABELS, 0);
            for (int i = 0; i < from.size(); i++) {
                if (goesToLabel(from.numberAt(i))) {
                    int label = farthest(from.argumentAt(i));
                    uses.change(label, uses.at(label) + 1);
                }
            }
        }

        /** The label at the end of a chain of labels and jumps; no such chain goes round, as none spends. */
        private int farthest(int label) {
            int far = label;
            for (int turn = 0; turn < LABELS; turn++) {
                int behind = places.at(far) + 1;
                int number = from.numberAt(behind);
                if (number != LABEL && number != GO) {
                    return far;
                }
                far = from.argumentAt(behind);
            }
            return far;
        }

        private void rewrite() {
            into.cutTo(0);
            boolean isDead = false;
            for (int i = 0; i < from.size(); i++) {
                int number = from.numberAt(i);
                int argument = from.argumentAt(i);
                if (number == LABEL && uses.at(argument) == 0) {
                    continue;
                }
                if (isDead && number != LABEL) {
                    continue;
                }
                int better = goesToLabel(number) ? farthest(argument) : argument;
                if (!folds(number, better)) {
                    into.append(number, better);
                }
                isDead = endsWay(into.lastNumber(0));
            }
        }

        /** Whether the instruction is done with by a change of those ahead of it, which may change in any case. */
        private boolean folds(int number, int argument) {
            switch (number) {
                case NEGATE:
                case TURN_BITS: return foldsOne(number);
                case CALCULATE: return foldsCalculation(argument);
                case COMPARE: return foldsComparison(argument);
                case DROP: return foldsDrop();
                case GO_IF_ZERO:
                case GO_IF_NOT_ZERO: return foldsCondition(number, argument);
                case LABEL: shortenWayTo(argument); return false;
                default: return false;
            }
        }

        private boolean foldsOne(int number) {
            int last = into.lastNumber(0);
            if (last == NUMBER) {
                int old = into.lastArgument(0);
                into.replaceLast(1, NUMBER, number == NEGATE ? -old : ~old);
                return true;
            }
            if (last == number) {
                into.cutLast();
                return true;
            }
            if (last == COMPARE && number == TURN_BITS) {
                into.replaceLast(1, COMPARE, Arithmetic.opposite(into.lastArgument(0)));
                return true;
            }
            return false;
        }

        private boolean foldsCalculation(int k) {
            if (into.lastNumber(0) != NUMBER) {
                return false;
            }
            int y = into.lastArgument(0);
            if (Arithmetic.leavesAlone(k, y)) {
                into.cutLast();
                return true;
            }
            // A division by 0 must stay, for the run to find it.
            if (into.lastNumber(1) != NUMBER || y == 0 && Arithmetic.divides(k)) {
                return false;
            }
            into.replaceLast(2, NUMBER, Arithmetic.calculate(k, into.lastArgument(1), y));
            return true;
        }

        private boolean foldsComparison(int k) {
            if (into.lastNumber(0) != NUMBER) {
                return false;
            }
            int y = into.lastArgument(0);
            if (into.lastNumber(1) == NUMBER) {
                into.replaceLast(2, NUMBER, Arithmetic.compare(k, into.lastArgument(1), y));
                return true;
            }
            if (into.lastNumber(1) == COMPARE && y == 0 && k < 2) {
                int inner = into.lastArgument(1);
                into.replaceLast(2, COMPARE, k == 0 ? Arithmetic.opposite(inner) : inner);
                return true;
            }
            return false;
        }

        private boolean foldsDrop() {
            int last = into.lastNumber(0);
            if (last == NEGATE || last == TURN_BITS) {
                into.cutLast();
                return false;
            }
            if (last == NUMBER || last == FROM_LOCAL) {
                into.cutLast();
                return true;
            }
            return false;
        }

        private boolean foldsCondition(int number, int label) {
            if (into.lastNumber(0) == NUMBER) {
                boolean isZero = into.lastArgument(0) == 0;
                into.cutLast();
                if (isZero == (number == GO_IF_ZERO)) {
                    into.append(GO, label);
                }
                return true;
            }
            if (into.lastNumber(0) == NEGATE) {
                into.cutLast();
                return false;
            }
            boolean isZeroTest = into.lastNumber(0) == COMPARE && into.lastArgument(0) < 2
                && into.lastNumber(1) == NUMBER && into.lastArgument(1) == 0;
            if (isZeroTest) {
                into.replaceLast(2, into.lastArgument(0) == 0 ? otherCondition(number) : number, label);
            }
            return isZeroTest;
        }

        private static int otherCondition(int number) {
            return number == GO_IF_ZERO ? GO_IF_NOT_ZERO : GO_IF_ZERO;
        }

        /** The label comes next: what goes to it from right ahead need not jump. */
        private void shortenWayTo(int label) {
            boolean comesByGo = into.lastNumber(0) == GO;
            int back = comesByGo ? 1 : 0;
            boolean comesByCondition = isCondition(into.lastNumber(back)) && into.lastArgument(back) == label
                && into.lastNumber(back + 1) != CASE;
            if (comesByGo && into.lastArgument(0) == label) {
                into.cutLast();
            } else if (comesByGo && comesByCondition) {
                into.replaceLast(2, otherCondition(into.lastNumber(1)), into.lastArgument(0));
            } else if (comesByCondition) {
                into.replaceLast(1, DROP, 0);
            }
        }
    }

    /**
     * Turns a right code into one of two registers and writes it out as words. While it goes along the code, it knows
     * of each value of the row where it is: in its slot, in A or B, or not made yet, being a number or a local's.
     */
    private static final class Translator {
        private static final int IN_SLOT = 0;
        private static final int IN_REGISTER = 1;
        private static final int IS_NUMBER = 2;
        private static final int IS_LOCAL = 3;

        private final Numbers image = new Numbers();
        private final Numbers kinds = new Numbers();
        private final Numbers details = new Numbers();
        // The values that A and B hold, by their places in the row.
        private int inA;
        private int inB;

        Numbers translate(Code code, Judge judge) {
            image.cutTo(0);
            layRow(0);
            for (int i = 0; i < code.size(); i++) {
                int number = code.numberAt(i);
                int k = code.argumentAt(i);
                switch (number) {
                    case NUMBER: lay(IS_NUMBER, k); break;
                    case FROM_LOCAL: lay(IS_LOCAL, k); break;
                    case TO_LOCAL: storeLocal(k); break;
                    case FROM_WORD: changeTop(FETCH); break;
                    case TO_WORD: meet(false); write(STORE, 0); drop(2); break;
                    case NEGATE: changeTop(MINUS); break;
                    case TURN_BITS: changeTop(FLIP); break;
                    case CALCULATE: meet(Arithmetic.commutes(k)); write(COMBINE, k); leaveInA(); break;
                    case COMPARE:
                        if (isCondition(code.numberAt(i + 1))) {
                            i++;
                            compareAndGo(k, code.numberAt(i), code.argumentAt(i));
                        } else {
                            write(RELATE, meet(true) ? Arithmetic.mirrored(k) : k);
                            leaveInA();
                        }
                        break;
                    case COMPARE_KEEP: compareAndKeep(k); break;
                    case GO: settle(0, kinds.size()); write(JUMP, k); layRow(0); break;
                    case GO_IF_ZERO: goIf(JUMP_IF_ZERO, k); break;
                    case GO_IF_NOT_ZERO: goIf(JUMP_IF_NOT_ZERO, k); break;
                    case LABEL:
                        settle(0, kinds.size());
                        write(MARK, k);
                        layRow(judge.depthAtLabel(k));
                        break;
                    case DROP: drop(1); break;
                    case SPEND: write(PAY, 0); break;
                    case END: toA(kinds.size() - 1); write(FINISH, 0); layRow(0); break;
                    case STOP: write(HALT, 0); layRow(0); break;
                    case CASE: i++; goInCase(k, code.argumentAt(i)); break;
                    case FROM_BYTE: meet(false); write(FETCH_BYTE, 0); leaveInA(); break;
                    case TO_BYTE: storeByte(); break;
                    default: break;
                }
            }
            return image;
        }

        private void write(int number, int argument) {
            if (argument >= -SHORT_ARGUMENT && argument < SHORT_ARGUMENT) {
                image.append(argument << ARGUMENT_SHIFT | number);
            } else {
                image.append(LONG_MARK | number);
                image.append(argument);
            }
        }

        /** The row as it is at a label: each value in its slot, whichever way the code came. */
        private void layRow(int depth) {
            kinds.refill(depth, IN_SLOT);
            details.refill(depth, 0);
            inA = NONE;
            inB = NONE;
        }

        private void lay(int kind, int detail) {
            kinds.append(kind);
            details.append(detail);
        }

        private void drop(int count) {
            kinds.cutTo(kinds.size() - count);
            details.cutTo(details.size() - count);
            inA = inA < kinds.size() ? inA : NONE;
            inB = inB < kinds.size() ? inB : NONE;
        }

        /** The top two have become one, which is in A. */
        private void leaveInA() {
            drop(2);
            lay(IN_REGISTER, 0);
            inA = kinds.size() - 1;
        }

        /** Brings the value at this place of the row into A, and what was in A into B. */
        private void toA(int place) {
            if (inA == place) {
                return;
            }
            if (inB == place) {
                write(SWAP, 0);
            } else {
                if (inB != NONE) {
                    write(KEEP_B, inB);
                    kinds.change(inB, IN_SLOT);
                }
                int kind = kinds.at(place);
                if (kind == IN_SLOT) {
                    write(LOAD_SLOT, place);
                } else {
                    write(kind == IS_NUMBER ? LOAD_NUMBER : LOAD_LOCAL, details.at(place));
                }
                kinds.change(place, IN_REGISTER);
            }
            inB = inA;
            inA = place;
        }

        /** Brings the values from the first place on, and ahead of the end, into their slots. */
        private void settle(int first, int end) {
            for (int place = first; place < end; place++) {
                if (kinds.at(place) == IN_SLOT) {
                    continue;
                }
                if (inB == place) {
                    write(KEEP_B, place);
                    inB = NONE;
                } else {
                    toA(place);
                    write(KEEP_A, place);
                    inA = NONE;
                }
                kinds.change(place, IN_SLOT);
            }
        }

        /**
         * Brings the top two, x and y, into B and A; or, where that is cheaper and they may be crosswise, into A and B.
         * Whether they are crosswise.
         */
        private boolean meet(boolean mayBeCrosswise) {
            int y = kinds.size() - 1;
            int x = y - 1;
            if (inA == y && inB == x) {
                return false;
            }
            if (inA != y && inB != y) {
                toA(x);
                toA(y);
                return false;
            }
            if (inA != x) {
                toA(y);
                toA(x);
            }
            if (!mayBeCrosswise) {
                toA(y);
            }
            return mayBeCrosswise;
        }

        private void changeTop(int number) {
            toA(kinds.size() - 1);
            write(number, 0);
        }

        /** Crosswise, the y that is kept is in B already. */
        private void compareAndKeep(int k) {
            if (meet(true)) {
                write(RELATE, Arithmetic.mirrored(k));
            } else {
                write(RELATE_KEEP, k);
            }
            inA = kinds.size() - 1;
            inB = inA - 1;
        }

        private void storeLocal(int k) {
            int top = kinds.size() - 1;
            // A value below that is this local's must be made while the local still has it.
            for (int place = 0; place < top; place++) {
                if (kinds.at(place) == IS_LOCAL && details.at(place) == k) {
                    settle(place, place + 1);
                }
            }
            toA(top);
            write(STORE_LOCAL, k);
            drop(1);
        }

        private void storeByte() {
            int place = kinds.size() - 3;
            settle(place, place + 1);
            meet(false);
            write(STORE_BYTE, place);
            drop(3);
        }

        private void goIf(int number, int label) {
            int top = kinds.size() - 1;
            settle(0, top);
            toA(top);
            write(number, label);
            drop(1);
        }

        private void compareAndGo(int k, int condition, int label) {
            settle(0, kinds.size() - 2);
            int way = meet(true) ? Arithmetic.mirrored(k) : k;
            write(JUMP_IF + (condition == GO_IF_ZERO ? Arithmetic.opposite(way) : way), label);
            drop(2);
        }

        private void goInCase(int k, int label) {
            int top = kinds.size() - 1;
            settle(0, top);
            toA(top);
            write(LOAD_NUMBER, k);
            inB = top;
            inA = NONE;
            write(JUMP_IF, label);
        }
    }

    /** The two registers' code as it is loaded from its words: each jump has the place that it goes to. */
    private static final class Program {
        private final Numbers numbers = new Numbers();
        private final Numbers arguments = new Numbers();
        private final Numbers places = new Numbers();

        void load(Numbers image) {
            numbers.cutTo(0);
            arguments.cutTo(0);
            places.refill(LABELS, NONE);
            for (int i = 0; i < image.size(); i++) {
                int read = image.at(i);
                int argument = read >> ARGUMENT_SHIFT;
                if ((read & LONG_MARK) != 0) {
                    i++;
                    argument = image.at(i);
                }
                take(read & NUMBER_MASK, argument);
            }
            for (int i = 0; i < numbers.size(); i++) {
                if (numbers.at(i) >= JUMP) {
                    arguments.change(i, places.at(arguments.at(i)));
                }
            }
        }

        private void take(int number, int argument) {
            if (number == MARK) {
                places.change(argument, numbers.size());
            } else {
                numbers.append(number);
                arguments.append(argument);
            }
        }

        int size() {
            return numbers.size();
        }

        int numberAt(int i) {
            return numbers.at(i);
        }

        int argumentAt(int i) {
            return arguments.at(i);
        }
    }

    /** The two registers and the slots; it runs a loaded code. */
    private static final class Machine {
        private static final int GOING = -1;

        private final Memory memory;
        private final Numbers slots = new Numbers();
        private int a;
        private int b;
        private int at;
        private int state;
        private int endValue;
        private int fuelLeft;

        Machine(Memory memory) {
            this.memory = memory;
            slots.refill(MOST_VALUES, 0);
        }

        int execute(Program program, int fuel) {
            at = 0;
            endValue = 0;
            fuelLeft = fuel;
            state = GOING;
            // Between two that pay no instruction comes twice.
            int bound = (fuel + 2) * (program.size() + 1);
            for (int turn = 0; turn < bound && state == GOING; turn++) {
                int number = program.numberAt(at);
                int argument = program.argumentAt(at);
                at++;
                if (number < STORE_LOCAL) {
                    move(number, argument);
                } else if (number < JUMP) {
                    work(number, argument);
                } else if (jumps(number)) {
                    at = argument;
                }
            }
            return state;
        }

        private void move(int number, int argument) {
            int old = a;
            switch (number) {
                case LOAD_NUMBER: a = argument; b = old; break;
                case LOAD_LOCAL: a = memory.localAt(argument); b = old; break;
                case LOAD_SLOT: a = slots.at(argument); b = old; break;
                case KEEP_A: slots.change(argument, a); break;
                case KEEP_B: slots.change(argument, b); break;
                case SWAP: a = b; b = old; break;
                default: break;
            }
        }

        private boolean jumps(int number) {
            switch (number) {
                case JUMP: return true;
                case JUMP_IF_ZERO: return a == 0;
                case JUMP_IF_NOT_ZERO: return a != 0;
                default: return Arithmetic.holds(number - JUMP_IF, b, a);
            }
        }

        private void work(int number, int argument) {
            switch (number) {
                case STORE_LOCAL: memory.changeLocal(argument, a); break;
                case FETCH: fetch(); break;
                case STORE: store(); break;
                case MINUS: a = -a; break;
                case FLIP: a = ~a; break;
                case COMBINE: combine(argument); break;
                case RELATE: a = Arithmetic.compare(argument, b, a); break;
                case RELATE_KEEP: relateAndKeep(argument); break;
                case FETCH_BYTE: fetchByte(); break;
                case STORE_BYTE: storeByte(slots.at(argument)); break;
                case PAY: pay(); break;
                case FINISH: endValue = a; state = ENDED; break;
                case HALT: state = STOPPED; break;
                default: break;
            }
        }

        private boolean reaches(long address) {
            boolean isThere = Memory.hasWord(address);
            if (!isThere) {
                state = NO_ADDRESS;
            }
            return isThere;
        }

        private void fetch() {
            if (reaches(a)) {
                a = memory.wordAt(a);
            }
        }

        private void store() {
            if (reaches(a)) {
                memory.changeWord(a, b);
            }
        }

        private void combine(int k) {
            if (a == 0 && Arithmetic.divides(k)) {
                state = DIVIDED_BY_ZERO;
            } else {
                a = Arithmetic.calculate(k, b, a);
            }
        }

        private void relateAndKeep(int k) {
            int y = a;
            a = Arithmetic.compare(k, b, y);
            b = y;
        }

        /** The sum is exact: it may lie outside 32 bits, and is no address then. */
        private long byteAddress() {
            return (long) b + (a >> 2);
        }

        private void fetchByte() {
            if (reaches(byteAddress())) {
                int old = memory.wordAt((int) byteAddress());
                a = old >>> 8 * (a & 3) & 255;
            }
        }

        private void storeByte(int number) {
            if (reaches(byteAddress())) {
                int address = (int) byteAddress();
                int shift = 8 * (a & 3);
                int others = memory.wordAt(address) & ~(255 << shift);
                memory.changeWord(address, others | (number & 255) << shift);
            }
        }

        private void pay() {
            if (fuelLeft == 0) {
                state = NO_FUEL;
            } else {
                fuelLeft--;
            }
        }
    }
}
