/** Promise 7: instructions that load, store, compare and jump, and when they are stuck. */
public final class RegisterInstructionsTest {
    private static final int W = Check.bytes(-1, 1, 2, 3, 4, 5);

    public static void main(String[] args) {
        load();
        loadIndex();
        store();
        storeOthers();
        compare();
        jumpAlways();
        jumpByToggle();
        jumpByIndicator();
        jumpByRegister();
        indexes();
        places();
        Check.end();
    }

    private static void loads(String instruction, int w, int due) {
        Check.same(instruction, Check.done(instruction, 12, 14, w).register(0), due);
    }

    private static void load() {
        loads("LDA 100", W, W);
        loads("LDA 100(1:5)", W, W & ~1);
        loads("LDA 100(3:5)", W, Check.bytes(1, 0, 0, 3, 4, 5));
        loads("LDA 100(0:3)", W, Check.bytes(-1, 0, 0, 1, 2, 3));
        loads("LDA 100(4:4)", W, Check.word(4));
        loads("LDA 100(0)", W, 1);
        loads("LDA 100(0)", Check.word(5), 0);
        loads("LDA 100", 1, 1);
        loads("LDAN 100", 1, 0);
        loads("LDAN 100", 0, 1);
        loads("LDAN 100(1:1)", W, Check.word(-1));
        loads("LDAN 100(0:2)", W, Check.word(66));
        Check.same("LDX", Check.done("LDX 100", 12, 14, W).register(7), W);
        Check.same("LDXN", Check.done("LDXN 100", 12, 14, W).register(7), W ^ 1);
        Check.same("LDX leaves A", Check.done("LDX 100", 12, 14, W).register(0), 12);
    }

    private static void loadIndex() {
        for (int r = 1; r <= 6; r++) {
            MixMachine m = Check.done("LD" + r + " 100", 12, 14, W);
            for (int other = 0; other <= 8; other++) {
                Check.same("LD" + r + ", " + other, m.register(other), other == r ? Check.word(-261) : other == 0 ? 12 : other == 7 ? 14 : 0);
            }
            Check.same("LDN", Check.done("LD" + r + "N 100(2:3)", 12, 14, W).register(r), Check.word(-131));
        }
        Check.same("minus 0", Check.done("LD3 100", 12, 14, Check.bytes(-1, 9, 9, 9, 0, 0)).register(3), 1);
        Check.same("minus 0 by LDN", Check.done("LD3N 100", 12, 14, Check.bytes(1, 9, 9, 9, 0, 0)).register(3), 1);
    }

    private static void stores(String instruction, int a, int w, int due) {
        Check.same(instruction, Check.done(instruction, a, 14, w).word(100), due);
    }

    private static void store() {
        int a = Check.bytes(1, 6, 7, 8, 9, 10);
        stores("STA 100", a, W, a);
        stores("STA 100(1:5)", a, W, a | 1);
        stores("STA 100(5:5)", a, W, Check.bytes(-1, 1, 2, 3, 4, 10));
        stores("STA 100(2:2)", a, W, Check.bytes(-1, 1, 10, 3, 4, 5));
        stores("STA 100(2:3)", a, W, Check.bytes(-1, 1, 9, 10, 4, 5));
        stores("STA 100(0:1)", a, W, Check.bytes(1, 10, 2, 3, 4, 5));
        stores("STA 100(0)", a, W, W & ~1);
        stores("STA 100(0)", 1, 0, 1);
        stores("STX 100(0:2)", a, W, Check.bytes(1, 0, 7, 3, 4, 5));
        stores("STZ 100", a, W, 0);
        stores("STZ 100(3:4)", a, W, Check.bytes(-1, 1, 2, 0, 0, 5));
        stores("STZ 100(0:3)", a, W, Check.bytes(1, 0, 0, 0, 4, 5));
    }

    private static void storeOthers() {
        MixMachine m = Check.assembled(" ENN3 130", " ST3 100", " ST3 101(1:3)", " ST3 102(0)", " JMP *+1", " STJ 103", " STJ 104(0:5)", " END 0");
        m.poke(101, W);
        m.poke(103, W);
        m.poke(104, W);
        Check.same("steps", m.step(7), 7);
        Check.same("ST3", m.word(100), Check.word(-130));
        Check.same("ST3(1:3)", m.word(101), Check.bytes(-1, 0, 2, 2, 4, 5));
        Check.same("ST3(0)", m.word(102), 1);
        Check.same("STJ", m.word(103), Check.bytes(1, 0, 5, 3, 4, 5));
        Check.same("STJ(0:5)", m.word(104), Check.word(5));
    }

    private static void compares(String instruction, int a, int w, int due) {
        MixMachine m = Check.done(instruction, a, 14, w);
        Check.same(instruction + ": indicator", m.state(3), due);
        Check.same(instruction + ": A", m.register(0), a);
        Check.same(instruction + ": word", m.word(100), w);
    }

    private static void compare() {
        compares("CMPA 100", Check.word(5), Check.word(5), 0);
        compares("CMPA 100", Check.word(5), Check.word(6), -1);
        compares("CMPA 100", Check.word(5), Check.word(-6), 1);
        compares("CMPA 100", Check.word(-1073741823), Check.word(1073741823), -1);
        compares("CMPA 100", 0, 1, 0);
        compares("CMPA 100(1:5)", Check.word(-7), Check.word(6), 1);
        compares("CMPA 100(3:3)", W, Check.bytes(1, 9, 9, 4, 0, 0), -1);
        compares("CMPA 100(0)", W, Check.word(5), 0);
        compares("CMPX 100", W, Check.word(8), -1);
        MixMachine m = Check.assembled(" ENT4 70", " CMP4 100", " CMP4 100(1:3)", " CMP4 100(4:5)", " END 0");
        m.poke(100, Check.bytes(1, 0, 0, 1, 0, 0));
        m.step(2);
        Check.same("CMP4", m.state(3), -1);
        m.step(1);
        Check.same("CMP4(1:3)", m.state(3), -1);
        m.step(1);
        Check.same("CMP4(4:5)", m.state(3), 1);
    }

    private static void jumpAlways() {
        MixMachine m = Check.done("JMP 199", 12, 14, 0);
        Check.same("JMP", m.state(0), 199);
        Check.same("JMP: J", m.register(8), Check.word(1));
        m = Check.done("JSJ 0", 12, 14, 0);
        Check.same("JSJ", m.state(0), 0);
        Check.same("JSJ: J", m.register(8), 0);
        Check.same("stuck: J", Check.stuck("JMP 200", 12, 14, 0).register(8), 0);
        Check.stuck("JMP -1", 12, 14, 0);
        Check.stuck("JSJ 200", 12, 14, 0);
        for (int f = 10; f < 64; f++) {
            Check.stuck("CON " + f + "(4:4),39(5:5)", 12, 14, 16);
        }
    }

    private static void toggle(boolean on, String jump, int place, int toggle, int j) {
        MixMachine m = Check.assembled(on ? " INCA 1" : " NOP", " " + jump, " ORIG 20", " LDA 30", " JSJ 0", " ORIG 30", " CON 32767*32769", " END 20");
        m.step(3);
        int due = place == 1 ? 0 : 1;
        Check.same(jump + ": steps", m.step(1), due);
        Check.same(jump + ": place", m.state(0), place);
        Check.same(jump + ": toggle", m.state(2), toggle);
        Check.same(jump + ": J", m.register(8), Check.word(j));
    }

    private static void jumpByToggle() {
        toggle(true, "JOV 50", 50, 0, 2);
        toggle(false, "JOV 50", 2, 0, 0);
        toggle(true, "JNOV 50", 2, 0, 0);
        toggle(false, "JNOV 50", 50, 0, 2);
        toggle(true, "JNOV 3000", 2, 0, 0);
        toggle(true, "JOV 3000", 1, 1, 0);
        toggle(false, "JOV 3000", 2, 0, 0);
    }

    private static void jumps(String text, boolean due) {
        MixMachine m = Check.assembled(text, " END 0");
        m.step(20);
        Check.same(text, m.register(8), due ? Check.word(2) : 0);
        Check.same(text, m.state(0), due ? 51 : 3);
    }

    private static void jumpByIndicator() {
        String[] names = {"JL", "JE", "JG", "JGE", "JNE", "JLE"};
        boolean[][] due = {{true, false, false}, {false, true, false}, {false, false, true},
            {false, true, true}, {true, false, true}, {true, true, false}};
        int[] compared = {5, 0, -5};
        for (int i = 0; i < names.length; i++) {
            for (int k = 0; k < 3; k++) {
                jumps(Check.lines(" CMPA 40", " " + names[i] + " 50", " HLT", " ORIG 40", " CON " + compared[k], " ORIG 50", " HLT"), due[i][k]);
            }
        }
    }

    private static void jumpByRegister() {
        String[] names = {"N", "Z", "P", "NN", "NZ", "NP"};
        boolean[][] due = {{true, false, false}, {false, true, false}, {false, false, true},
            {false, true, true}, {true, false, true}, {true, true, false}};
        String[] entered = {"ENN? 1", "ENN? 0", "ENT? 1"};
        for (char r : "A123456X".toCharArray()) {
            for (int i = 0; i < names.length; i++) {
                for (int k = 0; k < 3; k++) {
                    jumps(Check.lines(" " + entered[k].replace('?', r), " J" + r + names[i] + " 50", " HLT", " ORIG 50", " HLT"), due[i][k]);
                }
            }
        }
        Check.stuck("JAP 200", 12, 14, 0);
        Check.same("not taken", Check.done("JAN 200", 12, 14, 0).state(0), 1);
        for (int f = 6; f < 64; f++) {
            Check.stuck("CON " + f + "(4:4),40(5:5)", 12, 14, 16);
            Check.stuck("CON " + f + "(4:4),47(5:5)", 12, 14, 16);
        }
    }

    private static void indexes() {
        MixMachine m = Check.assembled(" ENT6 3", " ENN2 3", " LDA 50,6", " LDX 56,2", " LD1 -3,6", " END 0");
        m.poke(53, 22);
        Check.same("steps", m.step(5), 5);
        Check.same("plus", m.register(0), 22);
        Check.same("minus", m.register(7), 22);
        Check.same("M 0", m.register(1), Check.word(2 * 64 + 54));
        for (int operation = 0; operation < 64; operation++) {
            for (int index = 7; index < 64; index += 19) {
                Check.stuck("CON " + index + "(3:3)," + operation + "(5:5)", 12, 14, 16);
            }
        }
    }

    private static void places() {
        MixMachine m = Check.assembled(" ORIG 199", " NOP", " END 199");
        Check.same("steps", m.step(5), 1);
        Check.same("place 200", m.state(0), 200);
        Check.same("stuck there", m.state(4), 2);
        m = Check.assembled(" ORIG 199", " JMP 7", " END 199");
        m.step(1);
        Check.same("J behind 199", m.register(8), Check.word(200));
        m = Check.assembled(" ORIG 199", " HLT", " END 199");
        m.step(1);
        Check.same("HLT's place", m.state(0), 200);
        Check.same("HLT", m.state(4), 1);
    }
}
