/** Promise 7: instructions that calculate, convert, shift and move. */
public final class ArithmeticTest {
    private static final int ALL = 1073741823;

    public static void main(String[] args) {
        addAndSubtract();
        multiply();
        divide();
        convert();
        shiftA();
        shiftBoth();
        moveWords();
        increase();
        enter();
        Check.end();
    }

    private static void becomesA(String instruction, int a, int w, int due, int toggle) {
        MixMachine m = Check.done(instruction, a, 77, w);
        Check.same(instruction + ": A", m.register(0), due);
        Check.same(instruction + ": X", m.register(7), 77);
        Check.same(instruction + ": toggle", m.state(2), toggle);
        Check.same(instruction + ": place", m.state(0), 1);
    }

    private static void becomesAX(String instruction, int a, int x, int w, int dueA, int dueX) {
        MixMachine m = Check.done(instruction, a, x, w);
        Check.same(instruction + ": A", m.register(0), dueA);
        Check.same(instruction + ": X", m.register(7), dueX);
        Check.same(instruction + ": toggle", m.state(2), 0);
    }

    private static void addAndSubtract() {
        becomesA("ADD 100", Check.word(5), Check.word(7), Check.word(12), 0);
        becomesA("ADD 100", Check.word(5), Check.word(-7), Check.word(-2), 0);
        becomesA("SUB 100", Check.word(5), Check.word(7), Check.word(-2), 0);
        becomesA("ADD 100", Check.word(5), Check.word(-5), 0, 0);
        becomesA("ADD 100", Check.word(-5), Check.word(5), 1, 0);
        becomesA("SUB 100", Check.word(-5), Check.word(-5), 1, 0);
        becomesA("ADD 100", 0, 1, 0, 0);
        becomesA("ADD 100", 1, 0, 1, 0);
        becomesA("ADD 100", Check.word(ALL), Check.word(1), 0, 1);
        becomesA("SUB 100", Check.word(-ALL), Check.word(1), 1, 1);
        becomesA("ADD 100", Check.word(ALL), Check.word(ALL), Check.word(ALL - 1), 1);
        becomesA("SUB 100", Check.word(-ALL), Check.word(4), Check.word(-3), 1);
        becomesA("ADD 100(1:1)", Check.word(5), Check.bytes(-1, 9, 1, 1, 1, 1), Check.word(14), 0);
        becomesA("ADD 100(0:2)", Check.word(5), Check.bytes(-1, 1, 2, 3, 4, 5), Check.word(-61), 0);
        becomesA("ADD 100(0)", Check.word(5), Check.word(-9), Check.word(5), 0);
        becomesA("SUB 100(4:5)", Check.word(5), Check.bytes(-1, 1, 2, 3, 1, 2), Check.word(-61), 0);
        for (String part : new String[] {"100(6)", "100(8)", "100(1:0)", "100(6:6)", "100(7)", "100(63)", "100(4:3)", "200", "-1", "4000"}) {
            for (String name : new String[] {"ADD ", "SUB ", "MUL ", "DIV ", "LDA ", "LDXN ", "STA ", "STZ ", "STJ ", "CMPA "}) {
                Check.stuck(name + part, 12, 14, 16);
            }
        }
        Check.same("ADD keeps the toggle on", toggled("ADD 5").state(2), 1);
    }

    /** A machine whose toggle is on, and that has done one instruction more. */
    private static MixMachine toggled(String instruction) {
        MixMachine m = Check.assembled(" LDA 8", " INCA 1", " " + instruction, " END 0");
        m.poke(8, Check.word(ALL));
        Check.same("steps", m.step(3), 3);
        return m;
    }

    private static void multiply() {
        becomesAX("MUL 100", Check.word(6), 77, Check.word(-7), 1, Check.word(-42));
        becomesAX("MUL 100", Check.word(-6), 77, Check.word(-7), 0, Check.word(42));
        becomesAX("MUL 100", 1, 77, Check.word(7), 1, 1);
        becomesAX("MUL 100", Check.word(-7), 77, 1, 0, 0);
        becomesAX("MUL 100", Check.word(ALL), 77, Check.word(ALL), Check.word(ALL - 1), Check.word(1));
        becomesAX("MUL 100(1:5)", Check.word(6), 77, Check.word(-7), 0, Check.word(42));
        becomesAX("MUL 100(0)", Check.word(6), 77, Check.word(-7), 1, 1);
    }

    private static void divide() {
        becomesAX("DIV 100", 0, Check.word(17), Check.word(3), Check.word(5), Check.word(2));
        becomesAX("DIV 100", 0, Check.word(-17), Check.word(3), Check.word(5), Check.word(2));
        becomesAX("DIV 100", 1, Check.word(17), Check.word(3), Check.word(-5), Check.word(-2));
        becomesAX("DIV 100", 0, Check.word(17), Check.word(-3), Check.word(-5), Check.word(2));
        becomesAX("DIV 100", Check.word(-2), Check.word(17), Check.word(-3), Check.word((2 * 1073741824L + 17) / 3), Check.word(-1));
        becomesAX("DIV 100", Check.word(ALL - 1), Check.word(ALL), Check.word(ALL), Check.word(ALL), Check.word(ALL - 1));
        becomesA("DIV 100", Check.word(5), Check.word(5), Check.word(5), 1);
        becomesA("DIV 100", Check.word(-5), Check.word(4), Check.word(-5), 1);
        becomesA("DIV 100", 0, 0, 0, 1);
        becomesA("DIV 100(0)", 0, Check.word(-7), 0, 1);
    }

    private static void convert() {
        becomesAX("NUM", Check.bytes(-1, 0, 0, 31, 32, 39), Check.bytes(1, 37, 57, 47, 30, 30), 0, Check.word(-12977700), Check.bytes(1, 37, 57, 47, 30, 30));
        becomesAX("NUM", Check.bytes(1, 39, 39, 39, 39, 39), Check.bytes(-1, 39, 39, 39, 39, 39), 0,
            Check.word(9999999999L % 1073741824L), Check.bytes(-1, 39, 39, 39, 39, 39));
        becomesAX("CHAR", Check.word(-12977699), 0, 0, Check.bytes(-1, 30, 30, 31, 32, 39), Check.bytes(1, 37, 37, 36, 39, 39));
        becomesAX("CHAR", Check.word(ALL), 1, 0, Check.bytes(1, 31, 30, 37, 33, 37), Check.bytes(-1, 34, 31, 38, 32, 33));
        MixMachine m = Check.done("HLT 3000", 12, 14, 0);
        Check.same("HLT: place", m.state(0), 1);
        Check.same("HLT: stopped", m.state(4), 1);
        Check.same("NOP: any F", Check.done("NOP 3000(63)", 12, 14, 0).state(0), 1);
        for (int f = 3; f < 64; f++) {
            Check.stuck("CON " + f + "(4:4),5(5:5)", 12, 14, 16);
        }
    }

    private static void shiftA() {
        int a = Check.bytes(-1, 1, 2, 3, 4, 5);
        becomesA("SLA 0", a, 0, a, 0);
        becomesA("SLA 2", a, 0, Check.bytes(-1, 3, 4, 5, 0, 0), 0);
        becomesA("SLA 5", a, 0, 1, 0);
        becomesA("SLA 4095", a, 0, 1, 0);
        becomesA("SRA 2", a, 0, Check.bytes(-1, 0, 0, 1, 2, 3), 0);
        becomesA("SRA 4", a, 0, Check.bytes(-1, 0, 0, 0, 0, 1), 0);
        becomesA("SRA 6", a, 0, 1, 0);
        for (String name : new String[] {"SLA", "SRA", "SLAX", "SRAX", "SLC", "SRC"}) {
            Check.stuck(name + " -1", 12, 14, 16);
        }
        for (int f = 6; f < 64; f++) {
            Check.stuck("CON " + f + "(4:4),6(5:5)", 12, 14, 16);
        }
    }

    private static void shiftBoth() {
        int a = Check.bytes(1, 1, 2, 3, 4, 5);
        int x = Check.bytes(-1, 6, 7, 8, 9, 10);
        becomesAX("SLAX 2", a, x, 0, Check.bytes(1, 3, 4, 5, 6, 7), Check.bytes(-1, 8, 9, 10, 0, 0));
        becomesAX("SLAX 9", a, x, 0, Check.bytes(1, 10, 0, 0, 0, 0), 1);
        becomesAX("SLAX 10", a, x, 0, 0, 1);
        becomesAX("SLAX 4095", a, x, 0, 0, 1);
        becomesAX("SRAX 3", a, x, 0, Check.bytes(1, 0, 0, 0, 1, 2), Check.bytes(-1, 3, 4, 5, 6, 7));
        becomesAX("SRAX 9", a, x, 0, 0, Check.word(-1));
        becomesAX("SRAX 12", a, x, 0, 0, 1);
        becomesAX("SLC 0", a, x, 0, a, x);
        becomesAX("SLC 3", a, x, 0, Check.bytes(1, 4, 5, 6, 7, 8), Check.bytes(-1, 9, 10, 1, 2, 3));
        becomesAX("SLC 4093", a, x, 0, Check.bytes(1, 4, 5, 6, 7, 8), Check.bytes(-1, 9, 10, 1, 2, 3));
        becomesAX("SLC 10", a, x, 0, a, x);
        becomesAX("SRC 4", a, x, 0, Check.bytes(1, 7, 8, 9, 10, 1), Check.bytes(-1, 2, 3, 4, 5, 6));
        becomesAX("SRC 20", a, x, 0, a, x);
    }

    private static MixMachine moved(int i1, String move, int due) {
        MixMachine m = Check.assembled(" LD1 50", " " + move, " ORIG 50", " CON " + i1, " CON 11", " CON 12", " CON 13", " CON 14", " END 0");
        m.step(1);
        Check.same(move + " from I1 " + i1 + ": steps", m.step(1), due);
        return m;
    }

    private static void moveWords() {
        MixMachine m = moved(60, "MOVE 51(3)", 1);
        Check.same("first", m.word(60), 22);
        Check.same("last", m.word(62), 26);
        Check.same("not one more", m.word(63), 0);
        Check.same("I1", m.register(1), Check.word(63));
        m = moved(52, "MOVE 51(3)", 1);
        Check.same("one by one", m.word(54), 22);
        Check.same("one by default", moved(197, "MOVE 51", 1).register(1), Check.word(198));
        Check.same("to the last place", moved(197, "MOVE 51(3)", 1).register(1), Check.word(200));
        Check.same("F 0", moved(-9, "MOVE 3000(0)", 1).register(1), Check.word(-9));
        Check.same("from the last place", moved(0, "MOVE 196(4)", 1).register(1), Check.word(4));
        m = moved(198, "MOVE 51(3)", 0);
        Check.same("stuck: nothing moved", m.word(198), 0);
        Check.same("stuck: I1", m.register(1), Check.word(198));
        moved(-1, "MOVE 51(3)", 0);
        moved(60, "MOVE 197(4)", 0);
        moved(60, "MOVE -1(1)", 0);
    }

    private static int index(String... instructions) {
        String text = " " + String.join("\n ", instructions) + "\n END 0";
        MixMachine m = Check.assembled(text);
        Check.same(text, m.step(instructions.length), instructions.length);
        Check.same(text + ": toggle", m.state(2), 0);
        return m.register(2);
    }

    private static void increase() {
        becomesA("INCA 5", Check.word(-7), 0, Check.word(-2), 0);
        becomesA("INCA -5", Check.word(5), 0, 0, 0);
        becomesA("DECA -5", Check.word(-5), 0, 1, 0);
        becomesA("INCA 1", Check.word(ALL), 0, 0, 1);
        becomesA("DECA 4095", Check.word(-ALL), 0, Check.word(-4094), 1);
        MixMachine m = Check.done("DECX 2", 77, Check.word(-ALL), 0);
        Check.same("X", m.register(7), Check.word(-1));
        Check.same("X: toggle", m.state(2), 1);
        Check.same("INC2", index("ENT2 4000", "INC2 95"), Check.word(4095));
        Check.same("INC2, 4096", index("ENT2 4000", "INC2 96"), 0);
        Check.same("INC2, above", index("ENT2 4000", "INC2 106"), Check.word(10));
        Check.same("DEC2, below", index("ENN2 4000", "DEC2 106"), Check.word(-10));
        Check.same("DEC2, -4096", index("ENN2 4000", "DEC2 96"), 1);
        Check.same("0: the sign stays", index("ENN2 5", "INC2 5"), 1);
        Check.same("0: the sign stays", index("ENT2 5", "DEC2 5"), 0);
        Check.same("4096 apart from plus", index("ENT2 1", "ENN1 4095", "INC2 -2,1"), 0);
        for (int f = 4; f < 64; f++) {
            Check.stuck("CON " + f + "(4:4),48(5:5)", 12, 14, 16);
            Check.stuck("CON " + f + "(4:4),50(5:5)", 12, 14, 16);
        }
    }

    private static void enter() {
        becomesA("ENTA 4095", 1, 0, Check.word(4095), 0);
        becomesA("ENTA -7", 1, 0, Check.word(-7), 0);
        becomesA("ENNA 7", 0, 0, Check.word(-7), 0);
        becomesA("ENTA 0", 1, 0, 0, 0);
        becomesA("ENNA 0", 0, 0, 1, 0);
        becomesA("CON -1(0),2(4:4),48(5:5)", 12, 0, 1, 0);
        becomesA("CON -1(0),3(4:4),48(5:5)", 12, 0, 0, 0);
        becomesA("CON -1(0),1(3:3),2(4:4),48(5:5)", 12, 0, 0, 0);
        MixMachine m = Check.assembled(" ENT1 4095", " ENTA 4095,1", " ENNX 1,1", " ENT2 1,1", " ENN3 2,1", " ENN4 1,1", " END 0");
        m.step(6);
        Check.same("above 4095", m.register(0), Check.word(8190));
        Check.same("ENNX", m.register(7), Check.word(-4096));
        Check.same("modulo 4096", m.register(2), 0);
        Check.same("modulo 4096, minus", m.register(3), Check.word(-1));
        Check.same("modulo 4096, minus 0", m.register(4), 1);
    }
}
