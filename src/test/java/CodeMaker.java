import java.util.ArrayList;
import java.util.Arrays;
import java.util.List;
import java.util.Random;

/** Makes codes by chance (from a seed, so always the same ones): right ones, and right ones with a fault. */
final class CodeMaker {
    private static final int[] VALUES = {0, 0, 1, -1, 2, 3, 4, 5, 7, 8, 31, 32, 33, 62, 63, 64, 100, 255, 256, -4, -5,
        0x12345678, 1 << 23, (1 << 23) - 1, -(1 << 23), -(1 << 23) - 1, Integer.MAX_VALUE, Integer.MIN_VALUE};

    private final Random random;
    private List<int[]> code;
    private int[] lengths;
    private boolean[] placed;
    private boolean[] spends;
    private int length;
    private boolean dead;
    private int deepest;

    CodeMaker(long seed) {
        random = new Random(seed);
    }

    int value() {
        return random.nextInt(10) == 0 ? random.nextInt() : VALUES[random.nextInt(VALUES.length)];
    }

    int below(int bound) {
        return random.nextInt(bound);
    }

    /** A right code of about so many instructions, at most 400. */
    List<int[]> right(int size) {
        code = new ArrayList<>();
        lengths = new int[100];
        Arrays.fill(lengths, -1);
        placed = new boolean[100];
        spends = new boolean[100];
        length = 0;
        dead = false;
        deepest = random.nextInt(6) == 0 ? 60 : 2 + random.nextInt(6);
        while (code.size() < size) {
            step();
        }
        finishWay();
        for (int label = 0; label < 100; label++) {
            if (lengths[label] >= 0 && !placed[label]) {
                place(label, lengths[label]);
                finishWay();
            }
        }
        return code.size() <= 400 ? code : right(size / 2);
    }

    /** A right code in which something has been changed; it may still be right. */
    List<int[]> spoiled(int size) {
        List<int[]> made = new ArrayList<>(right(size));
        int changes = 1 + random.nextInt(2);
        for (int i = 0; i < changes; i++) {
            int at = random.nextInt(made.size());
            int[] any = {random.nextInt(24) - 1, random.nextInt(18) - 1};
            switch (random.nextInt(5)) {
                case 0: if (made.size() > 1) { made.remove(at); } break;
                case 1: made.add(at, any); break;
                case 2: made.set(at, any); break;
                case 3: made.set(at, new int[] {made.get(at)[0], random.nextInt(18) - 1}); break;
                default: made.add(random.nextInt(made.size() + 1), made.get(at)); break;
            }
        }
        return made.size() <= 400 ? made : made.subList(0, 400);
    }

    /** A short code of those instructions that steer. */
    List<int[]> steering() {
        int[] numbers = {0, 0, 0, 1, 5, 7, 9, 10, 11, 12, 12, 13, 13, 13, 14, 15, 15, 16, 17, 18};
        List<int[]> made = new ArrayList<>();
        int size = 1 + random.nextInt(9);
        int labels = 1 + random.nextInt(3);
        for (int i = 0; i < size; i++) {
            int number = numbers[random.nextInt(numbers.length)];
            made.add(new int[] {number, random.nextInt(labels)});
            if (number == 18 && random.nextInt(8) != 0) {
                made.add(new int[] {12, random.nextInt(labels)});
            }
        }
        return made;
    }

    /** A short code of few values, for what may be made of instructions that stand side by side. */
    List<int[]> tight() {
        code = new ArrayList<>();
        length = 0;
        int steps = 2 + random.nextInt(9);
        for (int i = 0; i < steps; i++) {
            switch (random.nextInt(9)) {
                case 0: put(0, random.nextInt(5) - 2, 1); break;
                case 1: case 2: put(1, random.nextInt(2), 1); break;
                case 3: takeTightly(1, 5, 0, 0); break;
                case 4: takeTightly(1, 6, 0, 0); break;
                case 5: takeTightly(2, 7, random.nextInt(11), -1); break;
                case 6: takeTightly(2, 8, random.nextInt(6), -1); break;
                case 7: takeTightly(2, 9, random.nextInt(6), 0); break;
                default: takeTightly(1, 14 - 12 * random.nextInt(2), random.nextInt(2), -1); break;
            }
        }
        endTightly();
        return code;
    }

    private void takeTightly(int values, int number, int k, int change) {
        while (length < values) {
            put(random.nextInt(2), random.nextInt(2), 1);
        }
        put(number, k, change);
    }

    /** An end, or one at each way of a 11, a 12 or an 18. */
    private void endTightly() {
        int kind = random.nextInt(4);
        if (kind == 3) {
            takeTightly(1, 18, random.nextInt(3) - 1, 0);
            put(12, 0, 0);
        } else if (kind > 0) {
            takeTightly(1, 10 + kind, 0, -1);
        }
        if (kind > 0) {
            put(0, 10, 1);
            put(16, 0, 0);
            put(13, 0, 0);
            length -= kind == 3 ? 2 : 1;
        }
        takeTightly(1, 16, 0, 0);
    }

    private void put(int number, int k, int change) {
        code.add(new int[] {number, k});
        length += change;
    }

    private void step() {
        if (dead) {
            int label = random.nextInt(100);
            for (int i = 0; i < 100; i++) {
                int other = (label + i) % 100;
                if (lengths[other] >= 0 && !placed[other]) {
                    place(other, lengths[other]);
                    return;
                }
            }
            if (!placed[label]) {
                place(label, random.nextInt(3));
            } else {
                put(random.nextInt(10), 0, 0);
            }
            return;
        }
        switch (random.nextInt(14)) {
            case 0: case 1: case 2: case 3: push(); break;
            case 4: case 5: calculate(); break;
            case 6: compare(); break;
            case 7: memory(); break;
            case 8: jump(); break;
            case 9: conditional(); break;
            case 10: label(); break;
            case 11: single(); break;
            case 12: store(); break;
            default: rare(); break;
        }
    }

    private void push() {
        if (length >= deepest) {
            return;
        }
        if (random.nextInt(3) == 0) {
            put(0, value(), 1);
        } else {
            put(1, random.nextInt(random.nextBoolean() ? 2 : 16), 1);
        }
    }

    private void need(int values) {
        while (length < values) {
            if (random.nextBoolean()) {
                put(0, value(), 1);
            } else {
                put(1, random.nextInt(3), 1);
            }
        }
    }

    private void calculate() {
        int k = random.nextInt(11);
        need(1);
        if (length < 60 && random.nextInt(k == 3 || k == 4 || k > 8 ? 8 : 2) != 0) {
            put(0, k == 3 || k == 4 ? 1 + random.nextInt(9) : value(), 1);
        }
        need(2);
        put(7, k, -1);
    }

    private void compare() {
        need(2);
        if (random.nextInt(3) == 0) {
            put(9, random.nextInt(6), 0);
        } else {
            put(8, random.nextInt(6), -1);
            if (random.nextInt(3) == 0) {
                put(6, 0, 0);
            }
        }
    }

    private void memory() {
        int kind = random.nextInt(4);
        need(kind == 0 ? 0 : kind == 3 ? 2 : 1);
        boolean sure = random.nextInt(12) != 0;
        if (length > 57) {
            return;
        }
        if (kind == 2) {
            put(0, sure ? random.nextInt(64) : value(), 1);
            put(0, sure ? random.nextInt(4) : value(), 1);
            put(19, value(), -1);
        } else if (kind == 3) {
            put(0, sure ? 20 + random.nextInt(24) : value(), 1);
            put(0, sure ? random.nextInt(160) - 80 : value(), 1);
            put(20, value(), -3);
        } else {
            if (sure) {
                put(0, random.nextInt(64), 1);
            } else {
                need(2);
            }
            put(kind == 0 ? 3 : 4, value(), kind == 0 ? 0 : -2);
        }
    }

    private void single() {
        need(1);
        int number = new int[] {5, 6, 14, 14}[random.nextInt(4)];
        put(number, value(), number == 14 ? -1 : 0);
    }

    private void store() {
        need(1);
        put(2, random.nextInt(random.nextBoolean() ? 2 : 16), -1);
    }

    private void place(int label, int lengthThere) {
        put(13, label, 0);
        placed[label] = true;
        lengths[label] = lengthThere;
        length = lengthThere;
        dead = false;
        if (random.nextBoolean()) {
            put(15, value(), 0);
            spends[label] = true;
        }
    }

    private void label() {
        int label = random.nextInt(100);
        for (int i = 0; i < 100; i++) {
            int other = (label + i) % 100;
            if (lengths[other] == length && !placed[other]) {
                place(other, length);
                return;
            }
        }
        if (lengths[label] < 0) {
            place(label, length);
        }
    }

    /** A label that a jump may go to with the row so long; a label behind it only if it spends. */
    private int aim(int lengthThere) {
        int label = random.nextInt(100);
        if (random.nextInt(3) != 0) {
            for (int i = 0; i < 100; i++) {
                int other = (label + i) % 100;
                if (lengths[other] == lengthThere && (!placed[other] || spends[other])) {
                    return other;
                }
            }
        }
        for (int i = 0; i < 100; i++) {
            int other = (label + i) % 100;
            if (lengths[other] < 0) {
                lengths[other] = lengthThere;
                return other;
            }
        }
        return -1;
    }

    private void jump() {
        int label = random.nextInt(3) == 0 ? aim(length) : -1;
        if (label >= 0) {
            put(10, label, 0);
            dead = true;
        }
    }

    private void conditional() {
        need(1);
        if (random.nextInt(3) == 0 && length >= 2) {
            put(8, random.nextInt(6), -1);
        }
        int label = aim(length - 1);
        if (label < 0) {
            return;
        }
        if (random.nextInt(4) == 0) {
            put(18, value(), 0);
            put(12, label, 0);
        } else {
            put(11 + random.nextInt(2), label, -1);
        }
    }

    private void rare() {
        switch (random.nextInt(12)) {
            case 0: put(17, value(), 0); dead = true; break;
            case 1: if (length > 0) { put(16, value(), 0); dead = true; } break;
            case 2: case 3: put(15, value(), 0); break;
            case 4: swapPattern(); break;
            default: push(); break;
        }
    }

    /** A local's old value below while the local itself gets another one. */
    private void swapPattern() {
        if (length > 56) {
            return;
        }
        int a = random.nextInt(3);
        int b = random.nextInt(3);
        put(1, a, 1);
        put(1, b, 1);
        put(2, a, -1);
        put(2, b, -1);
    }

    private void finishWay() {
        if (dead) {
            return;
        }
        if (random.nextInt(4) == 0) {
            put(17, 0, 0);
        } else {
            need(1);
            put(16, 0, 0);
        }
        dead = true;
    }
}
