/** Promise 6, and of promise 4 symbols, local symbols, literals and what waits. */
public final class SymbolTest {
    public static void main(String[] args) {
        values();
        names();
        ownLine();
        localSymbols();
        waiting();
        whatStandsThere();
        minusZero();
        atEnd();
        tooMany();
        Check.end();
    }

    private static void values() {
        MixMachine m = Check.assembled("A EQU -5", "B EQU 1(0:2),3(5:5)", " ORIG 20", "C ORIG 30", "D CON 1", "E NOP", " JMP F", " END 0");
        Check.same("EQU", m.symbol('A'), Check.word(-5));
        Check.same("EQU of a W", m.symbol('B'), Check.bytes(1, 0, 1, 0, 0, 3));
        Check.same("ORIG: the place before", m.symbol('C'), Check.word(20));
        Check.same("CON", m.symbol('D'), Check.word(30));
        Check.same("instruction", m.symbol('E'), Check.word(31));
        Check.same("one that END placed", m.symbol('F'), Check.word(33));
    }

    private static void names() {
        MixMachine m = Check.assembled("ABCDEF EQU 1", "1A EQU 2", "1H EQU 3", "Z9 EQU 4", " END 0");
        Check.same("six", m.symbol(Check.pack("ABCDEF")), 2);
        Check.same("digit first", m.symbol(Check.pack("1A")), 4);
        Check.same("two", m.symbol(Check.pack("Z9")), 8);
        String[] none = {"", "ABCDE", "ABCDEFG", "1H", "1B", "Z", "z9", "Z9\0A", "Z9 ", "9Z"};
        for (String name : none) {
            Check.refuses("symbol " + name, Check.ELEMENT, () -> m.symbol(Check.pack(name)));
        }
        Check.refuses("all eight bytes count", Check.ELEMENT, () -> m.symbol(Check.pack("Z9") | 1L << 56));
        Check.refuses("all eight bytes count", Check.ELEMENT, () -> m.symbol(Check.pack("ABCDEF") | 1L << 63));
    }

    private static void ownLine() {
        MixMachine m = Check.assembled(" ORIG 5", "A CON A+1", "B JMP B", "C ORIG C+3", " NOP", " END 0");
        Check.same("CON", m.word(5), Check.word(6));
        Check.same("JMP", m.word(6), Check.code(6, 0, 0, 39));
        Check.same("ORIG", m.word(10), 0);
        Check.same("ORIG's label", m.symbol('C'), Check.word(7));
        Check.wrongIn(1, "A EQU A", " END 0");
        Check.wrongIn(2, " JMP A", "A EQU A", " END 0");
        Check.wrongIn(1, "1H EQU 1B", " END 0");
        Check.wrongIn(1, "1H CON 1B", " END 0");
    }

    private static void localSymbols() {
        MixMachine m = Check.assembled("1H JMP 1F", "1H JMP 1B", "1H JMP 1F", "2H EQU 7", "2H EQU 2B+1", " LDA 2B", "1H LDA 2F,1(3)", "2H EQU -9", " END 0");
        Check.same("F: the next", m.word(0), Check.code(1, 0, 0, 39));
        Check.same("B: the latest above", m.word(1), Check.code(0, 0, 0, 39));
        Check.same("F: not the one of its line", m.word(2), Check.code(4, 0, 0, 39));
        Check.same("EQU, twice", m.word(3), Check.code(8, 0, 5, 8));
        Check.same("F of an EQU", m.word(4), Check.bytes(-1, 0, 9, 1, 3, 8));
        Check.wrongIn(1, " LDA 1B", "1H NOP", " END 0");
        Check.wrongIn(2, " LDA 1F", " END 0");
        Check.wrongIn(2, " LDA 0F", " END 0");
        Check.wrongIn(2, " LDA 9F", " END 0");
        Check.wrongIn(2, "1H LDA 1F", " END 0");
        Check.wrongIn(3, "1H LDA 2F", "1H NOP", " END 0", " NOP");
        Check.right("1H LDA 0F", "0H ORIG 100", " END 0");
    }

    private static void waiting() {
        MixMachine m = Check.assembled(" JMP A", " LDA A,2(1:3)", "A NOP", " JMP A", " LDX B", "B EQU -4095", " END 0");
        Check.same("first", m.word(0), Check.code(2, 0, 0, 39));
        Check.same("second", m.word(1), Check.code(2, 2, 11, 8));
        Check.same("behind it", m.word(3), Check.code(2, 0, 0, 39));
        Check.same("minus", m.word(4), Check.bytes(-1, 63, 63, 0, 5, 15));
        Check.wrongIn(2, "", " LDX B", " LDA B", "B EQU 4096", " END 0");
        Check.wrongIn(1, " LDX B", "B EQU -4096", " END 0");
        Check.wrongIn(1, " LDX 3F", "3H EQU 5000", " END 0");
        Check.wrongIn(1, " LDX B", " ORIG 4096", "B ORIG 0", " END 0");
        Check.wrongIn(1, " LDX B", " ORIG 4096", "B NOP", " END 0");
        Check.wrongIn(4, " ORIG 4096", "B ORIG 0", " NOP", " LDA B", " END 0");
    }

    private static void whatStandsThere() {
        MixMachine m = Check.assembled(" LDA A,2", " ORIG 0", " CON -5(0:0),9(3:5)", "A EQU 70", " END 0");
        Check.same("put into what stands there", m.word(0), Check.bytes(1, 1, 6, 0, 0, 9));
        m = Check.assembled(" ORIG 5", " JMP A", " ORIG 5", "A NOP 9", " END 0");
        Check.same("a symbol has its value before its line's word", m.word(5), Check.code(9, 0, 0, 0));
        m = Check.assembled(" ORIG 5", " JMP 1F", " ORIG 5", "1H NOP 9", " END 0");
        Check.same("an H behind it", m.word(5), Check.code(5, 0, 0, 0));
        m = Check.assembled(" ORIG 5", " JMP A", " ORIG 5", " END 0");
        Check.same("filled in first", m.word(5), 0);
        m = Check.assembled(" ORIG 5", " JMP =3=", " ORIG 5", " END 0");
        Check.same("filled in first, of a literal", m.word(5), 6);
    }

    private static void minusZero() {
        MixMachine m = Check.assembled(" ENTA A", "A EQU -1(0)", " ENTA A", " CON A", " END 0");
        Check.same("the sign of what was waited for", m.word(0), Check.bytes(-1, 0, 0, 0, 2, 48));
        Check.same("0 is plus in an expression", m.word(1), Check.code(0, 0, 2, 48));
        Check.same("0 is plus in a W", m.word(2), 0);
        Check.same("its value", m.symbol('A'), 1);
    }

    private static void atEnd() {
        MixMachine m = Check.assembled(" LDA =7=", " STA B", " STA A", " LDX =7=", " STX B", " LDX =*,-1(0)=", " ORIG 50", " END 0");
        Check.same("B", m.symbol('B'), Check.word(50));
        Check.same("A", m.symbol('A'), Check.word(51));
        int[] addresses = {52, 50, 51, 53, 50, 54};
        for (int i = 0; i < addresses.length; i++) {
            Check.same("address " + i, m.word(i) >> 19, addresses[i]);
        }
        Check.same("plus 0", m.word(50), 0);
        Check.same("literal", m.word(52), 14);
        Check.same("one alike", m.word(53), 14);
        Check.same("the place at hand of its line", m.word(54), Check.word(-5));
        Check.right(" LDA A", " LDA =5=", " ORIG 198", " END 0");
        Check.wrongIn(4, " LDA A", " LDA =5=", " ORIG 199", " END 0");
        Check.wrongIn(3, " LDA A", " ORIG 200", " END 0");
        Check.wrongIn(3, " LDA A", " ORIG -1", " END 0");
        Check.wrongIn(1, " LDA A", " ORIG 4096", " END 0");
        Check.wrongIn(1, " LDA =5=", " ORIG 4096", " END 0");
        MixMachine old = new MixMachine();
        old.poke(1, 99);
        Check.type(old, Check.lines(" LDA A", " END 0"));
        old.assemble();
        Check.same("plus 0 stands there", old.word(1), 0);
    }

    private static String labels(int count) {
        StringBuilder text = new StringBuilder();
        for (int i = 0; i < count; i++) {
            text.append((char) ('A' + i % 26)).append(i < 26 ? "" : "1").append(" JL\n");
        }
        return text.toString();
    }

    private static void tooMany() {
        Check.right(labels(30) + " END 0");
        Check.wrongIn(31, labels(31) + " END 0");
        Check.wrongIn(31, labels(30) + " JL Z9\n END 0");
        Check.right(labels(30) + " JL A\n END 0");
        Check.right(labels(29) + " JL Z9\n JL Z9\n END 0");
        Check.wrongIn(30, labels(29) + "Z9 JL Z8\n END 0");
        Check.right(" JL =0=\n".repeat(20) + " END 0");
        Check.wrongIn(21, " JL =0=\n".repeat(21) + " END 0");
        Check.right(" JL A\n".repeat(38) + " END 0");
    }
}
