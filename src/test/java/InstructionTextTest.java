/** Promise 4: instructions in text: names, address parts, expressions, W. */
public final class InstructionTextTest {
    public static void main(String[] args) {
        plainNames();
        namesWithRegisters();
        parts();
        expressions();
        words();
        Check.end();
    }

    private static void stands(String line, int due) {
        Check.same(line, Check.assembled(" " + line, " END 0").word(0), due);
    }

    private static void plainNames() {
        String[] names = {"NOP", "ADD", "SUB", "MUL", "DIV", "NUM", "CHAR", "HLT", "SLA", "SRA", "SLAX", "SRAX", "SLC", "SRC",
            "MOVE", "STJ", "STZ", "JBUS", "IOC", "IN", "OUT", "JRED", "JMP", "JSJ", "JOV", "JNOV", "JL", "JE", "JG", "JGE", "JNE", "JLE"};
        int[] codes = {0, 1, 2, 3, 4, 5, 5, 5, 6, 6, 6, 6, 6, 6, 7, 32, 33, 34, 35, 36, 37, 38, 39, 39, 39, 39, 39, 39, 39, 39, 39, 39};
        int[] fs = {0, 5, 5, 5, 5, 0, 1, 2, 0, 1, 2, 3, 4, 5, 1, 2, 5, 0, 0, 0, 0, 0, 0, 1, 2, 3, 4, 5, 6, 7, 8, 9};
        boolean[] tellF = new boolean[names.length];
        for (int i = 0; i < names.length; i++) {
            tellF[i] = i >= 5 && i <= 13 || i >= 22;
            name(names[i], codes[i], fs[i], tellF[i]);
        }
    }

    private static void name(String name, int code, int f, boolean tellsF) {
        stands(name, Check.code(0, 0, f, code));
        stands(name + " 70,3", Check.code(70, 3, f, code));
        if (tellsF) {
            Check.wrongIn(1, " " + name + " 70(" + f + ")", " END 0");
        } else {
            stands(name + " 70,3(44)", Check.code(70, 3, 44, code));
        }
    }

    private static void namesWithRegisters() {
        String registers = "A123456X";
        String[] patterns = {"LD?", "LD?N", "ST?", "CMP?", "J?N", "J?Z", "J?P", "J?NN", "J?NZ", "J?NP", "INC?", "DEC?", "ENT?", "ENN?"};
        int[] codes = {8, 16, 24, 56, 40, 40, 40, 40, 40, 40, 48, 48, 48, 48};
        int[] fs = {5, 5, 5, 5, 0, 1, 2, 3, 4, 5, 0, 1, 2, 3};
        for (int i = 0; i < patterns.length; i++) {
            for (int r = 0; r < 8; r++) {
                name(patterns[i].replace('?', registers.charAt(r)), codes[i] + r, fs[i], i >= 4);
            }
            for (String other : new String[] {"0", "7", "8", "J", "?", "B"}) {
                if (!patterns[i].equals("ST?") || !other.equals("J")) {
                    Check.wrongIn(1, " " + patterns[i].replace("?", other) + " 1", " END 0");
                }
            }
        }
    }

    private static void parts() {
        stands("LDA ,2", Check.code(0, 2, 5, 8));
        stands("LDA (3)", Check.code(0, 0, 3, 8));
        stands("LDA ,6(0:3)", Check.code(0, 6, 3, 8));
        stands("LDA 4095(63)", Check.code(4095, 0, 63, 8));
        stands("LDA -4095,0(0)", Check.bytes(-1, 63, 63, 0, 0, 8));
        stands("LDA -0", Check.code(0, 0, 5, 8));
        stands("LDA 5,1+2*2", Check.code(5, 6, 5, 8));
        String[] wrong = {"4096", "-4096", "1,7", "1,-1", "1,", "1(64)", "1(-1)", "1(", "1()", "1(5", "1(5)x", "1(5),2", "1)", "1,2,3", "A+1",
            "-A", "1F+1", "+1F", "1B", "1H", "=5", "==", "=A=", "=5=+1", "=5(6)=", "=5,=", "5=", "A=", "1,A", "1(A)", "x", "5x", "ABCDEFG", "(5)(5)"};
        for (String part : wrong) {
            Check.wrongIn(1, " LDA " + part, " END 0");
        }
    }

    private static void value(String expression, long due) {
        Check.same(expression, Check.assembled(" CON " + expression, " END 0").word(0), Check.word(due));
    }

    private static void expressions() {
        value("5", 5);
        value("+5", 5);
        value("-5", -5);
        value("-0", 0);
        value("000000012", 12);
        value("999999999", 999999999);
        value("1+2*3", 9);
        value("-1+5", 4);
        value("7-9", -2);
        value("7/2", 3);
        value("-7/2", -3);
        value("-1/2", 0);
        value("1:3", 11);
        value("1:3:2", 90);
        value("0:0", 0);
        value("32767*32769", 1073741823);
        value("-32767*32769", -1073741823);
        String[] wrong = {"", "-", "+", "--5", "5+", "5+-5", "*5", "**", "1000000000", "0000000001", "32768*32768", "-32768*32768", "1/0", "0/0",
            "999999999+99999999", "200000000:0", "A", "1F", "1H", "1B", "5.", "(5)"};
        for (String expression : wrong) {
            Check.wrongIn(1, " CON " + expression, " END 0");
        }
        MixMachine m = Check.assembled(" ORIG 3", "A CON *", " CON ***", " CON *-A", " CON -A*2", " CON *+*/2", " END 0");
        int[] due = {3, 16, 2, -6, 7};
        for (int i = 0; i < due.length; i++) {
            Check.same("the place at hand, " + i, m.word(3 + i), Check.word(due[i]));
        }
    }

    private static void words() {
        MixMachine m = Check.assembled(" CON 5(0:2),-7(3:3),1(5)", " CON -1,2(1:1)", " CON 5,-1(0)", " CON 0-1(0)", " CON 65(5:5)", " END 0");
        Check.same("all of it", m.word(0), Check.word(1));
        Check.same("minus stays", m.word(1), Check.bytes(-1, 2, 0, 0, 0, 1));
        Check.same("sign alone", m.word(2), Check.word(-5));
        Check.same("minus 0", m.word(3), 1);
        Check.same("lowest byte", m.word(4), Check.word(1));
        m = Check.assembled(" CON 5(2),-7(3:3),9(4:5)", " CON -130(0:1),63(2:2)", " END 0");
        Check.same("fields", m.word(0), Check.bytes(1, 0, 5, 7, 0, 9));
        Check.same("low byte of two", m.word(1), Check.bytes(-1, 2, 63, 0, 0, 0));
        for (String part : new String[] {"1(6)", "1(1:0)", "1(0:6)", "1(-1)", "1(63)", "1(6:6)", "1(5", "1,", ",1", "1(5)2", "1(5)(5)", "1(1000)"}) {
            Check.wrongIn(1, " CON " + part, " END 0");
        }
    }
}
