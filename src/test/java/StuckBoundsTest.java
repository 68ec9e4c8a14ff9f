/** When an instruction is stuck, at each bound, and that all is as it was before it then. */
public final class StuckBoundsTest {
    /** Of what Check.used has in A, I1 .. I6 and X. */
    private static final int[] SIGNS = {-1, 1, 1, -1, 1, 1, -1, 1};

    public static void main(String[] args) {
        index();
        kinds();
        placesThatAreReadOrWritten();
        placesOfAnIndex();
        jumps();
        placeAtHand();
        shiftsBelowZero();
        moves();
        movesOfNothing();
        blocks();
        otherUnits();
        noCards();
        Check.end();
    }

    private static String name(int w) {
        return "operation " + (w >> 1 & 63) + ", F " + (w >> 7 & 63) + ", index " + (w >> 13 & 63) + ", address " + (w % 2 == 1 ? "-" : "") + (w >> 19);
    }

    private static MixMachine done(Check.Use before, int w) {
        MixMachine m = Check.used();
        before.of(m);
        m.poke(171, w);
        Check.same(name(w) + ": steps", m.step(1), 1);
        Check.same(name(w) + ": stopped", m.state(4), (w >> 1 & 4095) == 2 * 64 + 5 ? 1 : 0);
        Check.same(name(w) + ": time", m.state(1), 22);
        return m;
    }

    private static void stuck(Check.Use before, int w) {
        MixMachine m = Check.used();
        before.of(m);
        m.poke(171, w);
        Check.same(name(w) + ": steps", m.step(1), 0);
        Check.same(name(w) + ": stuck", m.state(4), 2);
        MixMachine left = Check.used();
        before.of(left);
        left.poke(171, w);
        Check.looksLike(name(w), m, left);
    }

    private static void tried(boolean isDone, int w) {
        tried(isDone, m -> { }, w);
    }

    private static void tried(boolean isDone, Check.Use before, int w) {
        if (isDone) {
            done(before, w);
        } else {
            stuck(before, w);
        }
    }

    private static int goodF(int operation) {
        if (operation == 36) {
            return 16;
        }
        boolean hasKinds = operation == 0 || operation >= 5 && operation <= 7 || operation >= 34 && operation <= 55;
        return hasKinds ? 0 : 5;
    }

    private static void index() {
        Check.sentence("when the index is above 6 (of whatever operation)");
        for (int operation = 0; operation < 64; operation++) {
            for (int index : new int[] {0, 1, 2, 3, 4, 5, 6, 7, 8, 15, 31, 32, 62, 63}) {
                tried(index <= 6, Check.code(40, index, goodF(operation), operation));
            }
        }
    }

    private static boolean isField(int f) {
        return f / 8 <= f % 8 && f % 8 <= 5;
    }

    private static boolean hasKind(int operation, int f) {
        switch (operation) {
            case 0: case 7: return true;
            case 5: return f <= 2;
            case 6: return f <= 5;
            case 34: case 38: return f == 0 || f == 16 || f == 18;
            case 35: case 37: return f == 0 || f == 18;
            case 36: return f == 0 || f == 16;
            case 39: return f <= 9;
            default: return operation >= 40 && operation <= 47 ? f <= 5 : operation >= 48 && operation <= 55 ? f <= 3 : isField(f);
        }
    }

    private static void kinds() {
        Check.sentence("F is no field, place, or kind that the operation has");
        for (int operation = 0; operation < 64; operation++) {
            for (int f = 0; f < 64; f++) {
                tried(hasKind(operation, f), Check.code(100, 0, f, operation));
            }
        }
    }

    private static boolean usesAWord(int operation) {
        return operation >= 1 && operation <= 4 || operation >= 8 && operation <= 33 || operation >= 56;
    }

    private static void placesThatAreReadOrWritten() {
        Check.sentence("a place that is read, written or gone to by a jump that is taken is not 0 .. 199");
        for (int operation = 0; operation < 64; operation++) {
            for (int m : new int[] {-4095, -200, -2, -1, 0, 1, 198, 199, 200, 201, 255, 256, 4095}) {
                if (usesAWord(operation)) {
                    tried(m >= 0 && m < 200, Check.codeAt(m, 0, 5, operation));
                    tried(m >= 0 && m < 200, Check.codeAt(m, 0, 0, operation));
                }
            }
            if (usesAWord(operation)) {
                tried(true, Check.minusCode(0, 0, 5, operation));
            }
        }
    }

    private static void placesOfAnIndex() {
        Check.sentence("M is the address plus the value of the index register (none for 0)");
        int[][] addresses = {{1, 110}, {2, 2}, {3, -3}, {4, 4}, {5, 5}, {6, -6}};
        for (int[] one : addresses) {
            for (int m : new int[] {-1, 0, 199, 200}) {
                int w = Check.codeAt(m - one[1], one[0], 5, 8);
                tried(m >= 0 && m < 200, w);
                if (m == 0) {
                    Check.same("the word read", done(u -> u.poke(0, 55), w).register(0), 55);
                } else if (m == 199) {
                    Check.same("the word read", done(u -> u.poke(199, 66), w).register(0), 66);
                }
            }
        }
        MixMachine far = Check.used();
        far.poke(182, Check.word(4095));
        far.poke(171, Check.code(182, 0, 5, 9));
        far.poke(172, Check.code(4095, 1, 5, 8));
        Check.same("8190 is no place", far.step(2), 1);
        MixMachine below = Check.used();
        below.poke(182, Check.word(-4095));
        below.poke(171, Check.code(182, 0, 5, 9));
        below.poke(172, Check.minusCode(4095, 1, 5, 8));
        Check.same("nor is -8190", below.step(2), 1);
    }

    private static boolean holds(int f, int sign) {
        boolean[] kinds = {sign < 0, sign == 0, sign > 0, sign >= 0, sign != 0, sign <= 0};
        return kinds[f];
    }

    private static boolean isTaken(int operation, int f) {
        if (operation == 34 || operation == 38) {
            return operation == 38;
        }
        if (operation == 39) {
            return f <= 2 || f > 3 && holds(f - 4, -1);
        }
        return holds(f, SIGNS[operation - 40]);
    }

    private static void jumps() {
        Check.sentence("gone to by a jump that is taken is not 0 .. 199");
        for (int operation = 34; operation <= 47; operation++) {
            for (int f = 0; f < 64; f++) {
                if (operation > 34 && operation < 38 || !hasKind(operation, f)) {
                    continue;
                }
                boolean isTaken = isTaken(operation, f);
                for (int m : new int[] {-4095, -1, 0, 199, 200, 4095}) {
                    boolean isPlace = m >= 0 && m < 200;
                    tried(isPlace || !isTaken, Check.codeAt(m, 0, f, operation));
                    if (isPlace || !isTaken) {
                        MixMachine u = done(x -> { }, Check.codeAt(m, 0, f, operation));
                        Check.same("place", u.state(0), isTaken ? m : 172);
                        boolean isToggles = operation == 39 && (f == 2 || f == 3);
                        Check.same("toggle", u.state(2), isToggles ? 0 : 1);
                        boolean setsJ = isTaken && !(operation == 39 && f == 1);
                        Check.same("J", u.register(8), Check.word(setsJ ? 172 : 163));
                    }
                }
            }
        }
    }

    private static void placeAtHand() {
        Check.sentence("(also the place at hand, but not the one behind it: that is 200 behind 199)");
        int[] instructions = {0, Check.code(100, 0, 5, 8), Check.code(100, 0, 5, 1), Check.code(1, 0, 0, 48), Check.code(100, 0, 18, 37), Check.code(5, 0, 3, 39)};
        for (int w : instructions) {
            MixMachine m = Check.used();
            m.poke(199, w);
            m.go(199);
            Check.same("at 199", m.step(1), 1);
            Check.same("at 200 then", m.state(0), 200);
            Check.same("it goes", m.state(4), 0);
            MixMachine left = Check.used();
            left.poke(199, w);
            left.go(199);
            left.step(1);
            Check.same("at 200", m.step(1), 0);
            Check.same("stuck", m.state(4), 2);
            Check.looksLike("at 200", m, left);
        }
        MixMachine jump = Check.used();
        jump.poke(199, Check.code(7, 0, 0, 39));
        jump.go(199);
        jump.step(1);
        Check.same("J", jump.register(8), Check.word(200));
        MixMachine stored = Check.used();
        stored.poke(199, Check.code(7, 0, 0, 39));
        stored.poke(7, Check.code(100, 0, 2, 32));
        stored.go(199);
        stored.step(2);
        Check.same("STJ", stored.word(100), Check.bytes(1, 3, 8, 13, 14, 15));
    }

    private static void shiftsBelowZero() {
        Check.sentence("6, by M bytes (stuck if M is below 0)");
        for (int f = 0; f <= 5; f++) {
            for (int m : new int[] {-4095, -2, -1, 0, 1, 10, 4095}) {
                tried(m >= 0, Check.codeAt(m, 0, f, 6));
            }
            tried(true, Check.minusCode(0, 0, f, 6));
            tried(true, Check.minusCode(110, 1, f, 6));
            tried(false, Check.minusCode(111, 1, f, 6));
            tried(true, Check.code(3, 3, f, 6));
            tried(false, Check.code(2, 3, f, 6));
        }
    }

    /** I1 becomes this, without a step more or less in the two machines that are compared. */
    private static Check.Use i1(int value) {
        return m -> {
            m.poke(182, Check.word(value));
            m.poke(160, Check.code(182, 0, 5, 9));
            m.go(160);
            m.step(1);
            m.poke(160, 0);
            m.go(171);
        };
    }

    private static void moved(boolean isDone, int from, int to, int count) {
        MixMachine m = Check.used();
        i1(to).of(m);
        m.poke(171, Check.codeAt(from, 0, count, 7));
        String what = count + " words from " + from + " to " + to;
        Check.same(what, m.step(1), isDone ? 1 : 0);
        Check.same(what + ": I1", m.register(1), Check.word(isDone ? to + count : to));
        MixMachine left = Check.used();
        i1(to).of(left);
        left.poke(171, Check.codeAt(from, 0, count, 7));
        if (!isDone) {
            Check.looksLike(what, m, left);
        }
    }

    private static void moves() {
        Check.sentence("7 MOVE: F words from M on come to the place in I1 and behind, one by one; I1 grows by F");
        for (int count : new int[] {1, 2, 63}) {
            moved(true, 200 - count, 10, count);
            moved(false, 201 - count, 10, count);
            moved(false, 200, 10, count);
            moved(false, 4095, 10, count);
            moved(true, 0, 10, count);
            moved(false, -1, 10, count);
            moved(true, 10, 200 - count, count);
            moved(false, 10, 201 - count, count);
            moved(false, 10, 200, count);
            moved(false, 10, 4095, count);
            moved(true, 10, 0, count);
            moved(false, 10, -1, count);
            moved(false, 10, -4095, count);
            moved(true, 10, 10, count);
        }
    }

    private static void movesOfNothing() {
        Check.sentence("(with F 0 nothing, whatever M and I1 are)");
        for (int from : new int[] {-4095, -1, 0, 199, 200, 4095}) {
            for (int to : new int[] {-4095, -1, 0, 199, 200, 4095}) {
                moved(true, from, to, 0);
            }
        }
        MixMachine m = Check.loaded(Check.code(3000, 0, 0, 7), 0, 0, 1, 0);
        m.step(1);
        Check.same("I1 is minus 0 still", m.register(1), 1);
    }

    private static void blocks() {
        Check.sentence("a block comes to, from the places from M on");
        int[][] units = {{0, 36, 10}, {0, 37, 10}, {16, 36, 4}, {18, 37, 6}};
        for (int[] unit : units) {
            int last = 200 - unit[2];
            for (int m : new int[] {-4095, -unit[2], -1, 0, 1, last - 1, last, last + 1, 199, 200, 4095}) {
                tried(m >= 0 && m <= last, Check.codeAt(m, 0, unit[0], unit[1]));
            }
        }
    }

    private static void otherUnits() {
        Check.sentence("other ones are stuck (in 34 to 38)");
        for (int unit = 0; unit < 64; unit++) {
            boolean isUnit = unit == 0 || unit == 16 || unit == 18;
            tried(isUnit, Check.code(0, 0, unit, 34));
            tried(isUnit, Check.code(0, 0, unit, 38));
            tried(isUnit, Check.code(4000, 0, unit, 34));
            tried(isUnit && unit != 16, Check.code(1, 0, unit, 35));
            tried(isUnit && unit != 18, Check.code(1, 0, unit, 36));
            tried(isUnit && unit != 16, Check.code(1, 0, unit, 37));
        }
    }

    private static void noCards() {
        Check.sentence("of cards the oldest (stuck without)");
        Check.Use readOne = m -> {
            m.poke(160, Check.code(100, 0, 16, 36));
            m.go(160);
            m.step(9);
            m.go(160);
        };
        Check.Use readBoth = m -> {
            readOne.of(m);
            m.step(9);
            m.go(171);
        };
        MixMachine one = Check.used();
        readOne.of(one);
        Check.same("the second", one.step(1), 1);
        Check.same("is the younger one", one.word(100), 41);
        stuck(readBoth, Check.code(100, 0, 16, 36));
    }
}
