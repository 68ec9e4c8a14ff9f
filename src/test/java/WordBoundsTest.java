/** Words, fields and what instructions make of them at the bounds: overflow, what is left, minus 0, shifts. */
public final class WordBoundsTest {
    private static final int ALL = 1073741823;
    private static final int W = Check.bytes(-1, 11, 12, 13, 14, 15);

    public static void main(String[] args) {
        bytes();
        minusZero();
        partsOfAnInstruction();
        fieldValues();
        fieldsStored();
        signOfM();
        addAndSubtract();
        addingZero();
        toggleStaysOn();
        products();
        quotients();
        quotientsThatAreTooGreat();
        numbers();
        characters();
        halts();
        shiftsOfA();
        shiftsOfAX();
        shiftsRoundAbout();
        moveOneByOne();
        loadedIndexes();
        loadedWithTheOtherSign();
        storedIndexes();
        jumpsAlways();
        placeBehindIntoJ();
        jumpsByToggle();
        jumpsByIndicator();
        jumpsByMinusZero();
        increasedIndexes();
        increasedWords();
        entered();
        compared();
        Check.end();
    }

    private static MixMachine done(int instruction, int a, int x, int i1, int w) {
        MixMachine m = Check.loaded(instruction, a, x, i1, w);
        Check.same("steps", m.step(1), 1);
        return m;
    }

    private static void bytes() {
        Check.sentence("WORDS have a sign and five BYTES 0 .. 63; the MAGNITUDE is 64 to the powers 4 .. 0 times the bytes");
        for (int at = 1; at <= 5; at++) {
            for (int b : new int[] {0, 1, 62, 63}) {
                int[] five = {0, 0, 0, 0, 0};
                five[at - 1] = b;
                int w = Check.bytes(1, five[0], five[1], five[2], five[3], five[4]);
                Check.same("byte " + at, done(Check.code(100, 0, 9 * at, 8), 5, 0, 0, w).register(0), Check.word(b));
                Check.same("the others", done(Check.code(100, 0, 9 * (at % 5 + 1), 8), 5, 0, 0, w).register(0), 0);
            }
        }
        Check.same("the greatest word", done(Check.code(100, 0, 5, 8), 5, 0, 0, 2147483646).register(0), Check.word(ALL));
        Check.same("the smallest word", done(Check.code(100, 0, 5, 8), 5, 0, 0, 2147483647).register(0), Check.word(-ALL));
    }

    private static void minusZero() {
        Check.sentence("0 may be minus 0. At the face a word is twice its magnitude, plus 1 if it is minus.");
        for (int w : new int[] {0, 1, 2, 3, 2 * ALL, 2 * ALL + 1}) {
            MixMachine m = done(Check.code(100, 0, 5, 24), w, w, 0, 55);
            Check.same("poke, LDA and register", m.register(0), w);
            Check.same("poke, LDX and register", m.register(7), w);
            Check.same("STA and word", m.word(100), w);
        }
        Check.same("value of an index that is minus 0", done(Check.code(100, 1, 5, 8), 5, 5, 1, 55).register(0), 55);
        Check.same("I1 is minus 0", done(0, 5, 5, 1, 55).register(1), 1);
    }

    private static void partsOfAnInstruction() {
        Check.sentence("its sign and bytes 1 and 2 are an ADDRESS, byte 3 an INDEX, byte 4 F, byte 5 the operation.");
        Check.same("byte 1 alone", done(Check.bytes(1, 1, 0, 0, 2, 48), 5, 5, 0, 0).register(0), Check.word(64));
        Check.same("byte 2 alone", done(Check.bytes(1, 0, 1, 0, 2, 48), 5, 5, 0, 0).register(0), Check.word(1));
        Check.same("both at their most", done(Check.bytes(1, 63, 63, 0, 2, 48), 5, 5, 0, 0).register(0), Check.word(4095));
        Check.same("the sign", done(Check.bytes(-1, 63, 63, 0, 2, 48), 5, 5, 0, 0).register(0), Check.word(-4095));
        Check.same("byte 3", done(Check.bytes(1, 0, 1, 1, 2, 48), 5, 5, Check.word(70), 0).register(0), Check.word(71));
        Check.same("byte 4", done(Check.bytes(1, 0, 1, 0, 3, 48), 5, 5, 0, 0).register(0), Check.word(-1));
        Check.same("byte 5", done(Check.bytes(1, 0, 1, 0, 2, 55), 5, 5, 0, 0).register(7), Check.word(1));
        Check.sentence("0 NOP (any F).");
        for (int f = 0; f < 64; f++) {
            MixMachine m = done(Check.code(4095, 6, f, 0), 5, 7, 9, 11);
            Check.same("place", m.state(0), 1);
            Check.same("A", m.register(0), 5);
            Check.same("J", m.register(8), 0);
        }
    }

    /** The word that a field's value is, byte by byte. */
    private static int valueOf(int[] five, int sign, int l, int r) {
        long magnitude = 0;
        for (int at = Math.max(1, l); at <= r; at++) {
            magnitude = magnitude * 64 + five[at - 1];
        }
        return (int) (2 * magnitude + (l == 0 && sign < 0 ? 1 : 0));
    }

    private static void fieldValues() {
        Check.sentence("A FIELD is L:R, 0 at most L at most R at most 5: the bytes from L (from 1 on) to R, and the sign if L is 0; its VALUE has byte R as the lowest, and is plus if L is above 0.");
        int[][] words = {{11, 12, 13, 14, 15}, {63, 63, 63, 63, 63}, {0, 0, 0, 0, 0}};
        for (int[] five : words) {
            for (int sign : new int[] {-1, 1}) {
                int w = Check.bytes(sign, five[0], five[1], five[2], five[3], five[4]);
                for (int l = 0; l <= 5; l++) {
                    for (int r = l; r <= 5; r++) {
                        int due = valueOf(five, sign, l, r);
                        Check.same("LDA of " + l + ":" + r, done(Check.code(100, 0, 8 * l + r, 8), 5, 0, 0, w).register(0), due);
                        Check.same("LDXN of " + l + ":" + r, done(Check.code(100, 0, 8 * l + r, 23), 5, 0, 0, w).register(7), due ^ 1);
                    }
                }
            }
        }
    }

    private static void fieldsStored() {
        Check.sentence("the field F of the word at M gets as many of the lowest bytes, and the sign, if L is 0");
        int[] from = {1, 2, 3, 4, 5};
        for (int sign : new int[] {-1, 1}) {
            int a = Check.bytes(sign, 1, 2, 3, 4, 5);
            for (int l = 0; l <= 5; l++) {
                for (int r = l; r <= 5; r++) {
                    int[] five = {11, 12, 13, 14, 15};
                    for (int at = r; at >= Math.max(1, l); at--) {
                        five[at - 1] = from[4 - (r - at)];
                    }
                    for (int old : new int[] {-1, 1}) {
                        int w = Check.bytes(old, 11, 12, 13, 14, 15);
                        int due = Check.bytes(l == 0 ? sign : old, five[0], five[1], five[2], five[3], five[4]);
                        MixMachine m = done(Check.code(100, 0, 8 * l + r, 24), a, 0, 0, w);
                        Check.same("STA of " + l + ":" + r, m.word(100), due);
                        Check.same("A stays", m.register(0), a);
                    }
                }
            }
        }
    }

    private static void entersA(String what, int instruction, int i1, int due) {
        Check.same(what, done(instruction, Check.word(99), 0, i1, 0).register(0), due);
    }

    private static void signOfM() {
        Check.sentence("when it is 0, its sign is the address's, if the index is 0, else plus");
        entersA("plus 0", Check.code(0, 0, 2, 48), 0, 0);
        entersA("minus 0", Check.minusCode(0, 0, 2, 48), 0, 1);
        entersA("ENN of plus 0", Check.code(0, 0, 3, 48), 0, 1);
        entersA("ENN of minus 0", Check.minusCode(0, 0, 3, 48), 0, 0);
        entersA("minus 0, and an index of plus 0", Check.minusCode(0, 1, 2, 48), 0, 0);
        entersA("minus 0, and an index of minus 0", Check.minusCode(0, 1, 2, 48), 1, 0);
        entersA("plus 0, and an index of minus 0", Check.code(0, 1, 2, 48), 1, 0);
        entersA("-7 and 7", Check.minusCode(7, 1, 2, 48), Check.word(7), 0);
        entersA("7 and -7", Check.code(7, 1, 2, 48), Check.word(-7), 0);
        entersA("ENN of 7 and -7", Check.code(7, 1, 3, 48), Check.word(-7), 1);
        entersA("-7 and 6", Check.minusCode(7, 1, 2, 48), Check.word(6), Check.word(-1));
        entersA("-7 and 8", Check.minusCode(7, 1, 2, 48), Check.word(8), Check.word(1));
        entersA("an index that is not told does not count", Check.minusCode(0, 0, 2, 48), Check.word(8), 1);
        entersA("the greatest", Check.code(4095, 1, 2, 48), Check.word(4095), Check.word(8190));
        entersA("the smallest", Check.minusCode(4095, 1, 2, 48), Check.word(-4095), Check.word(-8190));
    }

    private static void added(int operation, long a, long v, long due, boolean isOn) {
        addedWords(operation, Check.word(a), Check.word(v), Check.word(due), isOn);
    }

    private static void addedWords(int operation, int a, int v, int due, boolean isOn) {
        MixMachine m = done(Check.code(100, 0, 5, operation), a, 77, 0, v);
        String what = "operation " + operation + " of " + a + " and " + v;
        Check.same(what, m.register(0), due);
        Check.same(what + ": toggle", m.state(2), isOn ? 1 : 0);
        Check.same(what + ": X", m.register(7), 77);
        Check.same(what + ": word", m.word(100), v);
    }

    private static void addAndSubtract() {
        Check.sentence("if the magnitude is 64^5 or more, the toggle is on, and it is what is left by 64^5");
        for (int sign = -1; sign <= 1; sign += 2) {
            for (int operation = 1; operation <= 2; operation++) {
                int way = operation == 1 ? sign : -sign;
                added(operation, sign * (ALL - 1L), way, sign * (long) ALL, false);
                added(operation, sign * (long) ALL, -way, sign * (ALL - 1L), false);
                addedWords(operation, Check.word(sign * (long) ALL), Check.word(way), sign < 0 ? 1 : 0, true);
                added(operation, sign * (long) ALL, 2 * way, sign, true);
                added(operation, sign * (long) ALL, way * (long) ALL, sign * (ALL - 1L), true);
                addedWords(operation, Check.word(sign), Check.word(way * (long) ALL), sign < 0 ? 1 : 0, true);
            }
        }
    }

    private static void addingZero() {
        Check.sentence("if it is 0 then, A's sign stays");
        for (int operation = 1; operation <= 2; operation++) {
            for (int v = 0; v <= 1; v++) {
                addedWords(operation, 0, v, 0, false);
                addedWords(operation, 1, v, 1, false);
            }
            addedWords(operation, Check.word(5), Check.word(operation == 1 ? -5 : 5), 0, false);
            addedWords(operation, Check.word(-5), Check.word(operation == 1 ? 5 : -5), 1, false);
            addedWords(operation, Check.word(ALL), Check.word(operation == 1 ? -ALL : ALL), 0, false);
            addedWords(operation, 0, Check.word(operation == 1 ? -5 : 5), Check.word(-5), false);
            addedWords(operation, 1, Check.word(operation == 1 ? 5 : -5), Check.word(5), false);
        }
    }

    private static void toggleStaysOn() {
        Check.sentence("the toggle is on", "and stays on but for JOV and JNOV");
        int[] instructions = {Check.code(100, 0, 5, 1), Check.code(100, 0, 5, 2), Check.code(100, 0, 5, 3), Check.code(99, 0, 5, 4),
            Check.code(1, 0, 0, 48), Check.code(1, 0, 1, 55), Check.code(1, 0, 0, 49), Check.code(1, 0, 2, 48), Check.code(100, 0, 5, 56), Check.code(5, 0, 4, 39)};
        for (int instruction : instructions) {
            MixMachine m = Check.loaded(Check.code(1, 0, 0, 48), Check.word(ALL), 5, 0, Check.word(3));
            m.poke(99, Check.word(9));
            m.poke(1, instruction);
            Check.same("off", m.state(2), 0);
            m.step(1);
            Check.same("on", m.state(2), 1);
            Check.same("steps", m.step(1), 1);
            Check.same("on still", m.state(2), 1);
        }
    }

    private static void madeAX(int operation, int a, int x, int v, int dueA, int dueX, boolean isOn) {
        MixMachine m = done(Check.code(100, 0, 5, operation), a, x, 0, v);
        String what = "operation " + operation + " of " + a + ", " + x + " and " + v;
        Check.same(what + ": A", m.register(0), dueA);
        Check.same(what + ": X", m.register(7), dueX);
        Check.same(what + ": toggle", m.state(2), isOn ? 1 : 0);
    }

    private static void products() {
        Check.sentence("its magnitude comes into A (the upper five bytes) and X (the lower ones), both with its sign (minus, if just one of A and V is)");
        for (int a = 0; a <= 1; a++) {
            for (int v = 0; v <= 1; v++) {
                int minus = a ^ v;
                madeAX(3, a, 76, v, minus, minus, false);
                madeAX(3, 2 * ALL + a, 77, v, minus, minus, false);
                madeAX(3, 2 * 32768 + a, 77, 2 * 32767 + v, minus, 2 * (ALL - 32767) + minus, false);
                madeAX(3, 2 * 32768 + a, 77, 2 * 32768 + v, 2 + minus, minus, false);
                madeAX(3, 2 * ALL + a, 77, 2 * ALL + v, 2 * (ALL - 1) + minus, 2 + minus, false);
                madeAX(3, 2 * ALL + a, 77, 2 + v, minus, 2 * ALL + minus, false);
            }
        }
    }

    private static void quotients() {
        Check.sentence("the quotient comes into A, the remainder into X; A's sign is minus, if just one of A and V was, X's is A's before");
        for (int a = 0; a <= 1; a++) {
            for (int v = 0; v <= 1; v++) {
                for (int x = 0; x <= 1; x++) {
                    int minus = a ^ v;
                    madeAX(4, a, x, 2 + v, minus, a, false);
                    madeAX(4, a, 2 * 17 + x, 2 * 5 + v, 2 * 3 + minus, 2 * 2 + a, false);
                    madeAX(4, a, 2 * 4 + x, 2 * 5 + v, minus, 2 * 4 + a, false);
                    madeAX(4, a, 2 * 5 + x, 2 * 5 + v, 2 + minus, a, false);
                    madeAX(4, a, 2 * ALL + x, 2 + v, 2 * ALL + minus, a, false);
                    madeAX(4, 2 * (ALL - 1) + a, 2 * ALL + x, 2 * ALL + v, 2 * ALL + minus, 2 * (ALL - 1) + a, false);
                }
            }
        }
    }

    private static void quotientsThatAreTooGreat() {
        Check.sentence("If V's magnitude is not above A's: the toggle is on, nothing else.");
        for (int a = 0; a <= 1; a++) {
            for (int v = 0; v <= 1; v++) {
                for (int size : new int[] {0, 1, 5, ALL - 1, ALL}) {
                    madeAX(4, 2 * size + a, 77, 2 * size + v, 2 * size + a, 77, true);
                    madeAX(4, 2 * size + a, 77, v, 2 * size + a, 77, true);
                }
                madeAX(4, 2 * 5 + a, 77, 2 * 4 + v, 2 * 5 + a, 77, true);
                long ten = 5 * (ALL + 1L);
                madeAX(4, 2 * 5 + a, 0, 2 * 6 + v, 2 * (int) (ten / 6) + (a ^ v), 2 * (int) (ten % 6) + a, false);
            }
        }
        MixMachine sign = done(Check.code(100, 0, 0, 4), 0, 76, 0, W);
        Check.same("the field 0:0 is 0", sign.state(2), 1);
        Check.same("X stays", sign.register(7), 76);
    }

    private static void numbered(String digits, int minusA, int minusX, long due) {
        int[] ten = new int[10];
        for (int i = 0; i < 10; i++) {
            ten[i] = digits.charAt(i) - '0' + 30;
        }
        int a = Check.bytes(1, ten[0], ten[1], ten[2], ten[3], ten[4]) + minusA;
        int x = Check.bytes(1, ten[5], ten[6], ten[7], ten[8], ten[9]) + minusX;
        MixMachine m = done(Check.code(0, 0, 0, 5), a, x, 0, 0);
        Check.same("NUM of " + digits, m.register(0), 2 * due + minusA);
        Check.same("X stays", m.register(7), x);
        Check.same("toggle", m.state(2), 0);
    }

    private static void numbers() {
        Check.sentence("NUM: the ten bytes of A and X, each modulo 10, as a number, modulo 64^5: A's magnitude.");
        for (int minus = 0; minus <= 1; minus++) {
            numbered("0000000000", minus, 1 - minus, 0);
            numbered("0000000001", minus, 1 - minus, 1);
            numbered("1073741823", minus, 1 - minus, ALL);
            numbered("1073741824", minus, 1 - minus, 0);
            numbered("1073741825", minus, 1 - minus, 1);
            numbered("9999999999", minus, 1 - minus, 9999999999L % (ALL + 1L));
        }
        for (int b = 0; b < 64; b++) {
            MixMachine m = done(Check.code(0, 0, 0, 5), Check.bytes(1, 0, 0, 0, 0, b), Check.bytes(1, 0, 0, 0, 0, b), 0, 0);
            Check.same("byte " + b, m.register(0), Check.word(b % 10 * 100001L));
        }
    }

    private static void characters() {
        Check.sentence("F 1 CHAR: A's magnitude in ten digits, 30 more each: the bytes of A and X.");
        long[] sizes = {0, 1, 9, 10, 99999, 100000, 999999999, 1000000000, ALL};
        for (long size : sizes) {
            for (int minus = 0; minus <= 1; minus++) {
                long ten = size;
                int[] digits = new int[10];
                for (int i = 9; i >= 0; i--) {
                    digits[i] = (int) (ten % 10) + 30;
                    ten /= 10;
                }
                MixMachine m = done(Check.code(0, 0, 1, 5), (int) (2 * size) + minus, 1 - minus, 0, 0);
                Check.same("CHAR of " + size + ": A", m.register(0), Check.bytes(1, digits[0], digits[1], digits[2], digits[3], digits[4]) + minus);
                Check.same("CHAR of " + size + ": X", m.register(7), Check.bytes(1, digits[5], digits[6], digits[7], digits[8], digits[9]) + 1 - minus);
            }
        }
    }

    private static void halts() {
        Check.sentence("F 2 HLT: it stops, at the next place.");
        for (int place : new int[] {0, 5, 198, 199}) {
            MixMachine m = new MixMachine();
            m.poke(place, Check.code(4000, 0, 2, 5));
            m.go(place);
            Check.same("HLT at " + place, m.step(500), 1);
            Check.same("the next place", m.state(0), place + 1);
            Check.same("stopped", m.state(4), 1);
        }
    }

    private static long shifted(long ten, int by, int f) {
        long all = (1L << 60) - 1;
        long result = ten;
        for (int i = 0; i < by; i++) {
            switch (f) {
                case 2: result = result * 64 & all; break;
                case 3: result = result / 64; break;
                case 4: result = result * 64 & all | result >> 54; break;
                default: result = result / 64 | result % 64 << 54; break;
            }
        }
        return result;
    }

    private static void shiftsOfA() {
        Check.sentence("F 0 SLA, 1 SRA: A's bytes to the left, right, with 0 for what is missing");
        int size = Check.bytes(1, 11, 12, 13, 14, 15) / 2;
        for (int minus = 0; minus <= 1; minus++) {
            for (int by : new int[] {0, 1, 2, 3, 4, 5, 6, 7, 10, 11, 32, 64, 4095}) {
                long left = size;
                long right = size;
                for (int i = 0; i < by; i++) {
                    left = left * 64 % (ALL + 1L);
                    right /= 64;
                }
                MixMachine m = done(Check.code(by, 0, 0, 6), 2 * size + minus, 77, 0, 0);
                Check.same("SLA " + by, m.register(0), 2 * left + minus);
                Check.same("X stays", m.register(7), 77);
                m = done(Check.code(by, 0, 1, 6), 2 * size + minus, 77, 0, 0);
                Check.same("SRA " + by, m.register(0), 2 * right + minus);
                Check.same("X stays", m.register(7), 77);
            }
        }
    }

    private static void shiftedAX(int f, int by, int address, int i1, int index) {
        int a = Check.bytes(1, 11, 12, 13, 14, 15) / 2;
        int x = Check.bytes(1, 16, 17, 18, 19, 63) / 2;
        for (int minus = 0; minus <= 1; minus++) {
            MixMachine m = done(Check.code(address, index, f, 6), 2 * a + minus, 2 * x + 1 - minus, i1, 0);
            long due = shifted((long) a << 30 | x, by, f);
            Check.same("F " + f + " by " + by + ": A", m.register(0), 2 * (due >> 30) + minus);
            Check.same("F " + f + " by " + by + ": X", m.register(7), 2 * (due & ALL) + 1 - minus);
            Check.same("toggle", m.state(2), 0);
        }
    }

    private static void shiftsOfAX() {
        Check.sentence("2 SLAX, 3 SRAX: those of A and X together");
        for (int f = 2; f <= 3; f++) {
            for (int by : new int[] {0, 1, 4, 5, 6, 9, 10, 11, 15, 20, 21, 32, 64, 4095}) {
                shiftedAX(f, by, by, 0, 0);
            }
            shiftedAX(f, 8190, 4095, Check.word(4095), 1);
        }
    }

    private static void shiftsRoundAbout() {
        Check.sentence("4 SLC, 5 SRC: likewise, round about. (In all these signs stay.)");
        for (int f = 4; f <= 5; f++) {
            for (int by : new int[] {0, 1, 4, 5, 6, 9, 10, 11, 19, 20, 21, 32, 64, 4090, 4095}) {
                shiftedAX(f, by, by, 0, 0);
            }
            shiftedAX(f, 8190, 4095, Check.word(4095), 1);
            shiftedAX(f, 8189, 4095, Check.word(4094), 1);
        }
    }

    private static void moveOneByOne() {
        Check.sentence("F words from M on come to the place in I1 and behind, one by one; I1 grows by F");
        for (int to : new int[] {100, 101, 102, 104, 105, 97, 95}) {
            int[] due = new int[200];
            MixMachine m = Check.loaded(Check.code(100, 0, 5, 7), 0, 0, Check.word(to), 0);
            for (int i = 0; i < 20; i++) {
                m.poke(90 + i, 40 + i);
                due[90 + i] = 40 + i;
            }
            for (int i = 0; i < 5; i++) {
                due[to + i] = due[100 + i];
            }
            m.step(1);
            for (int place = 90; place < 112; place++) {
                Check.same("to " + to + ": word " + place, m.word(place), due[place]);
            }
            Check.same("to " + to + ": I1", m.register(1), Check.word(to + 5));
        }
        MixMachine zero = Check.loaded(Check.code(100, 0, 2, 7), 0, 0, 1, 66);
        zero.step(1);
        Check.same("to minus 0", zero.word(0), 66);
        Check.same("I1", zero.register(1), Check.word(2));
    }

    private static void loadedIndexes() {
        Check.sentence("it becomes V (an index register modulo 4096, with V's sign, be it 0, too)");
        int[] sizes = {0, 1, 4095, 4096, 4097, 8191, 8192, ALL - 1, ALL};
        for (int r = 1; r <= 6; r++) {
            for (int size : sizes) {
                for (int minus = 0; minus <= 1; minus++) {
                    int w = 2 * size + minus;
                    Check.same("LD" + r + " of " + w, done(Check.code(100, 0, 5, 8 + r), 5, 5, 0, w).register(r), 2 * (size % 4096) + minus);
                    Check.same("LD" + r + "N of " + w, done(Check.code(100, 0, 5, 16 + r), 5, 5, 0, w).register(r), 2 * (size % 4096) + 1 - minus);
                    Check.same("LD" + r + " of its bytes", done(Check.code(100, 0, 13, 8 + r), 5, 5, 0, w).register(r), 2 * (size % 4096));
                }
            }
        }
        Check.same("the field's value, modulo", done(Check.code(100, 0, 11, 9), 5, 5, 0, W).register(1), Check.word(12 * 64 + 13));
        Check.same("A has all of it", done(Check.code(100, 0, 5, 8), 5, 5, 0, 2 * ALL + 1).register(0), 2 * ALL + 1);
        Check.same("X has all of it", done(Check.code(100, 0, 5, 15), 5, 5, 0, 2 * ALL + 1).register(7), 2 * ALL + 1);
    }

    private static void loadedWithTheOtherSign() {
        Check.sentence("16 .. 23 LDN: likewise with the other sign");
        for (int r : new int[] {0, 7}) {
            Check.same("of plus 0", done(Check.code(100, 0, 5, 16 + r), 5, 5, 0, 0).register(r), 1);
            Check.same("of minus 0", done(Check.code(100, 0, 5, 16 + r), 5, 5, 0, 1).register(r), 0);
            Check.same("of the sign of a minus word", done(Check.code(100, 0, 0, 16 + r), 5, 5, 0, W).register(r), 0);
            Check.same("of the sign of a plus word", done(Check.code(100, 0, 0, 16 + r), 5, 5, 0, W - 1).register(r), 1);
            Check.same("of a field without the sign", done(Check.code(100, 0, 45, 16 + r), 5, 5, 0, W).register(r), Check.word(-15));
            Check.same("of the smallest", done(Check.code(100, 0, 5, 16 + r), 5, 5, 0, 2 * ALL + 1).register(r), 2 * ALL);
        }
    }

    private static void storedIndexes() {
        Check.sentence("I1 .. I6 (a sign and two bytes: 4 and 5 of a word whose others are 0) and J (likewise, always plus)");
        int i1 = Check.bytes(-1, 0, 0, 0, 62, 63);
        Check.same("ST1", done(Check.code(100, 0, 5, 25), 5, 5, i1, W).word(100), i1);
        Check.same("ST1(1:3)", done(Check.code(100, 0, 11, 25), 5, 5, i1, W).word(100), Check.bytes(-1, 0, 62, 63, 14, 15));
        Check.same("ST1(5:5)", done(Check.code(100, 0, 45, 25), 5, 5, i1, W).word(100), Check.bytes(-1, 11, 12, 13, 14, 63));
        Check.same("ST1(0:0)", done(Check.code(100, 0, 0, 25), 5, 5, i1, W - 1).word(100), W);
        Check.same("ST1 of minus 0", done(Check.code(100, 0, 5, 25), 5, 5, 1, W).word(100), 1);
        Check.same("STJ(0:5)", done(Check.code(100, 0, 5, 32), 5, 5, 0, W).word(100), 0);
        Check.same("STZ", done(Check.code(100, 0, 5, 33), 5, 5, 0, W).word(100), 0);
        Check.same("STZ(0:0)", done(Check.code(100, 0, 0, 33), 5, 5, 0, W).word(100), W - 1);
        Check.same("STZ(1:5)", done(Check.code(100, 0, 13, 33), 5, 5, 0, W).word(100), 1);
    }

    private static void jumpsAlways() {
        Check.sentence("39: goes to M: F 0 JMP, 1 JSJ always");
        for (int f = 0; f <= 1; f++) {
            for (int to : new int[] {0, 1, 198, 199}) {
                MixMachine m = done(Check.code(to, 0, f, 39), 5, 5, 0, 0);
                Check.same("F " + f + " to " + to, m.state(0), to);
                Check.same("J", m.register(8), f == 0 ? Check.word(1) : 0);
            }
            Check.same("to minus 0", done(Check.minusCode(0, 0, f, 39), 5, 5, 0, 0).state(0), 0);
            for (int k = -1; k <= 1; k++) {
                MixMachine m = Check.loaded(Check.code(100, 0, 5, 56), Check.word(k), 0, 0, 0);
                m.poke(1, Check.code(50, 0, f, 39));
                m.step(2);
                Check.same("whatever the indicator is", m.state(0), 50);
                Check.same("it stays", m.state(3), k);
            }
            for (int on = 0; on <= 1; on++) {
                MixMachine m = toggled(on == 1, f, 50);
                m.step(1);
                Check.same("whatever the toggle is", m.state(0), 50);
                Check.same("it stays", m.state(2), on);
            }
            Check.same("by an index", done(Check.minusCode(1, 1, f, 39), 5, 5, Check.word(200), 0).state(0), 199);
        }
    }

    private static void placeBehindIntoJ() {
        Check.sentence("Whenever it goes to M, J becomes the place behind the instruction, but for JSJ.");
        for (int place : new int[] {0, 1, 62, 63, 64, 198, 199}) {
            int[] jumps = {Check.code(7, 0, 0, 39), Check.code(7, 0, 3, 39), Check.code(7, 0, 5, 39), Check.code(7, 0, 1, 40), Check.code(7, 0, 3, 47), Check.code(7, 0, 5, 43), Check.code(7, 0, 16, 38)};
            for (int jump : jumps) {
                MixMachine m = new MixMachine();
                m.poke(place, jump);
                m.go(place);
                m.step(1);
                Check.same("place", m.state(0), 7);
                Check.same("J behind " + place, m.register(8), Check.word(place + 1));
                m.poke(7, Check.code(9, 0, 1, 39));
                m.step(1);
                Check.same("JSJ goes", m.state(0), 9);
                Check.same("JSJ leaves J", m.register(8), Check.word(place + 1));
                m.poke(9, Check.code(7, 0, 2, 39));
                m.step(1);
                Check.same("one that does not go", m.state(0), 10);
                Check.same("leaves J", m.register(8), Check.word(place + 1));
            }
        }
    }

    private static MixMachine toggled(boolean isOn, int f, int m) {
        MixMachine machine = Check.loaded(Check.code(isOn ? 1 : 0, 0, 0, 48), Check.word(ALL), 0, 0, 0);
        machine.poke(1, Check.code(m, 0, f, 39));
        machine.step(1);
        Check.same("toggle", machine.state(2), isOn ? 1 : 0);
        return machine;
    }

    private static void jumpsByToggle() {
        Check.sentence("2 JOV if the toggle is on, 3 JNOV if not (it is off then, whether it goes to M or not)");
        for (int f = 2; f <= 3; f++) {
            for (int on = 0; on <= 1; on++) {
                boolean isTaken = (f == 2) == (on == 1);
                MixMachine m = toggled(on == 1, f, 50);
                Check.same("steps", m.step(1), 1);
                Check.same("place", m.state(0), isTaken ? 50 : 2);
                Check.same("it is off", m.state(2), 0);
                Check.same("J", m.register(8), isTaken ? Check.word(2) : 0);
                MixMachine none = toggled(on == 1, f, 200);
                Check.same("to no place", none.step(1), isTaken ? 0 : 1);
                Check.same("as before, when stuck", none.state(2), isTaken ? on : 0);
            }
        }
    }

    private static void jumpsByIndicator() {
        Check.sentence("4 JL, 5 JE, 6 JG, 7 JGE, 8 JNE, 9 JLE by the indicator (below, equal to, above 0 ..)");
        boolean[][] due = {{true, false, false}, {false, true, false}, {false, false, true}, {false, true, true}, {true, false, true}, {true, true, false}};
        for (int f = 4; f <= 9; f++) {
            for (int k = -1; k <= 1; k++) {
                MixMachine m = Check.loaded(Check.code(100, 0, 5, 56), Check.word(k), 0, 0, 1);
                m.poke(1, Check.code(50, 0, f, 39));
                m.step(2);
                Check.same("indicator", m.state(3), k);
                Check.same("F " + f + " when it is " + k, m.state(0), due[f - 4][k + 1] ? 50 : 2);
                Check.same("J", m.register(8), due[f - 4][k + 1] ? Check.word(2) : 0);
            }
        }
    }

    private static void jumpsByMinusZero() {
        Check.sentence("goes to M if its value is: F 0 N below 0, 1 Z 0, 2 P above 0, 3 NN not below, 4 NZ not 0, 5 NP not above");
        int[] registers = {Check.word(-1), 1, 0, Check.word(1)};
        boolean[][] due = {{true, false, false, false}, {false, true, true, false}, {false, false, false, true},
            {false, true, true, true}, {true, false, false, true}, {true, true, true, false}};
        for (int f = 0; f <= 5; f++) {
            for (int k = 0; k < 4; k++) {
                for (int r : new int[] {0, 1, 7}) {
                    MixMachine m = done(Check.code(50, 0, f, 40 + r), registers[k], registers[k], registers[k], 0);
                    Check.same("F " + f + " of register " + r + " when it is " + registers[k], m.state(0), due[f][k] ? 50 : 1);
                }
            }
        }
    }

    private static void increased(int i1, int address, int f, int due) {
        MixMachine m = done(Check.codeAt(address, 0, f, 49), 5, 5, i1, 0);
        Check.same("F " + f + " of " + i1 + " by " + address, m.register(1), due);
        Check.same("toggle", m.state(2), 0);
    }

    private static void increasedIndexes() {
        Check.sentence("as ADD and SUB do it (index registers: modulo 4096, without the toggle; of what is 0 the sign stays)");
        for (int f = 0; f <= 1; f++) {
            int way = f == 0 ? 1 : -1;
            for (int sign = -1; sign <= 1; sign += 2) {
                int minus = sign < 0 ? 1 : 0;
                increased(Check.word(sign * 4094), sign * way, f, Check.word(sign * 4095));
                increased(Check.word(sign * 4095), sign * way, f, minus);
                increased(Check.word(sign * 4095), 2 * sign * way, f, Check.word(sign));
                increased(Check.word(sign * 4095), 4095 * sign * way, f, Check.word(sign * 4094));
                increased(Check.word(sign * 5), -5 * sign * way, f, minus);
                increased(Check.word(sign * 5), -6 * sign * way, f, Check.word(-sign));
                increased(minus, 0, f, minus);
                increased(minus, 1, f, Check.word(way));
                increased(minus, -1, f, Check.word(-way));
            }
        }
        MixMachine own = done(Check.code(4095, 1, 0, 49), 5, 5, Check.word(4095), 0);
        Check.same("4095 and 8190 more", own.register(1), Check.word(12285 % 4096));
        MixMachine to4096 = done(Check.code(4095, 1, 0, 50), 5, 5, Check.word(1), 0);
        Check.same("plus 0 and 4096 more", to4096.register(2), 0);
        MixMachine below = done(Check.code(4095, 1, 1, 50), 5, 5, Check.word(1), 0);
        Check.same("plus 0 and 4096 less: its sign stays", below.register(2), 0);
        MixMachine above = done(Check.code(4095, 1, 1, 50), 5, 5, Check.word(2), 0);
        Check.same("4097 less", above.register(2), Check.word(-1));
    }

    private static void increasedWords() {
        Check.sentence("F 0 INC, 1 DEC: plus M, minus M, as ADD and SUB do it");
        for (int r : new int[] {0, 7}) {
            for (int f = 0; f <= 1; f++) {
                for (int sign = -1; sign <= 1; sign += 2) {
                    int way = f == 0 ? sign : -sign;
                    int minus = sign < 0 ? 1 : 0;
                    int[] starts = {Check.word(sign * (ALL - 1L)), Check.word(sign * (long) ALL), Check.word(sign * (long) ALL), Check.word(sign * 5L), minus};
                    int[] steps = {way, way, 4095 * way, -5 * way, 0};
                    int[] due = {Check.word(sign * (long) ALL), minus, Check.word(sign * 4094L), minus, minus};
                    int[] toggles = {0, 1, 1, 0, 0};
                    for (int i = 0; i < starts.length; i++) {
                        MixMachine m = done(Check.codeAt(steps[i], 0, f, 48 + r), starts[i], starts[i], 0, 0);
                        Check.same("F " + f + " of " + starts[i] + " by " + steps[i], m.register(r), due[i]);
                        Check.same("toggle", m.state(2), toggles[i]);
                        Check.same("the other one", m.register(7 - r), starts[i]);
                    }
                }
            }
        }
    }

    private static void entered() {
        Check.sentence("F 2 ENT: M, 3 ENN: M with the other sign (index registers modulo 4096)");
        int[] indexes = {0, 1, 2, 4095};
        for (int f = 2; f <= 3; f++) {
            for (int sign = -1; sign <= 1; sign += 2) {
                int way = f == 2 ? sign : -sign;
                for (int more : indexes) {
                    int size = 4095 + more;
                    MixMachine m = done(Check.codeAt(sign * 4095, 1, f, 50), 5, 5, Check.word(sign * more), 0);
                    Check.same("F " + f + " of " + sign * size, m.register(2), 2 * (size % 4096) + (way < 0 ? 1 : 0));
                    m = done(Check.codeAt(sign * 4095, 1, f, 48), 5, 5, Check.word(sign * more), 0);
                    Check.same("A: F " + f + " of " + sign * size, m.register(0), Check.word(way * size));
                    m = done(Check.codeAt(sign * 4095, 1, f, 55), 5, 5, Check.word(sign * more), 0);
                    Check.same("X: F " + f + " of " + sign * size, m.register(7), Check.word(way * size));
                }
            }
            Check.same("an index of plus 0", done(Check.code(0, 0, f, 50), 5, 5, 0, 0).register(2), f == 2 ? 0 : 1);
            Check.same("an index of minus 0", done(Check.minusCode(0, 0, f, 50), 5, 5, 0, 0).register(2), f == 2 ? 1 : 0);
        }
    }

    private static void compared(int f, int a, int w, int due) {
        MixMachine m = done(Check.code(100, 0, f, 56), a, 5, 0, w);
        Check.same("F " + f + " of " + a + " and " + w, m.state(3), due);
        Check.same("A stays", m.register(0), a);
        Check.same("the word stays", m.word(100), w);
        Check.same("toggle", m.state(2), 0);
    }

    private static void compared() {
        Check.sentence("the indicator becomes -1, 0, 1, as the value of the register's field F is below, equal to, above that of the word at M");
        compared(5, 0, 1, 0);
        compared(5, 1, 0, 0);
        compared(5, Check.word(ALL), Check.word(ALL), 0);
        compared(5, Check.word(ALL), Check.word(ALL - 1), 1);
        compared(5, Check.word(ALL - 1), Check.word(ALL), -1);
        compared(5, Check.word(-ALL), Check.word(ALL), -1);
        compared(5, Check.word(ALL), Check.word(-ALL), 1);
        compared(5, Check.word(-ALL), Check.word(1 - ALL), -1);
        compared(5, Check.word(-1), 0, -1);
        compared(5, Check.word(1), 1, 1);
        compared(0, W, W - 1, 0);
        compared(13, W, W - 1, 0);
        compared(5, W, W - 1, -1);
        compared(9, W, Check.bytes(1, 11, 63, 63, 63, 63), 0);
        compared(9, W, Check.bytes(1, 12, 0, 0, 0, 0), -1);
        compared(45, W, Check.bytes(1, 63, 63, 63, 63, 14), 1);
        compared(1, W, Check.bytes(1, 0, 63, 63, 63, 63), -1);
        compared(1, W, Check.bytes(-1, 12, 0, 0, 0, 0), 1);
        int i1 = Check.bytes(-1, 0, 0, 0, 14, 15);
        Check.same("an index, whose upper bytes are 0", done(Check.code(100, 0, 11, 57), 5, 5, i1, Check.bytes(1, 0, 0, 1, 0, 0)).state(3), -1);
        Check.same("an index's lower bytes", done(Check.code(100, 0, 37, 57), 5, 5, i1, W).state(3), 0);
        Check.same("X", done(Check.code(100, 0, 5, 63), 5, Check.word(6), 0, Check.word(5)).state(3), 1);
    }
}
