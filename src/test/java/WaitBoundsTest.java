/** What waits, the limits of symbols, literals and of what waits, and texts without END, at the bounds. */
public final class WaitBoundsTest {
    public static void main(String[] args) {
        magnitudesWaitedFor();
        lineByWhichItCame();
        signsWaitedFor();
        asSoonAs();
        whatStandsAtItsPlace();
        nextH();
        symbolLimit();
        symbolsThatAreNone();
        symbolsThatEndPlaces();
        literalLimit();
        literalsWithSymbols();
        manyThatWait();
        withoutEnd();
        digitThatWaitsAtEnd();
        firstWrongLine();
        eachTextByItself();
        Check.end();
    }

    private static void magnitudesWaitedFor() {
        Check.sentence("An A-part that had to wait is what it refers to, as soon as that has its value (its word's sign, also of 0, and magnitude, below 4096");
        for (int value : new int[] {-4095, -4094, -1, 0, 1, 4094, 4095}) {
            MixMachine m = Check.assembled(" LDA A,3(7)", " STX 1F,2", "A EQU " + value, "1H EQU " + value, " END 0");
            Check.same("a symbol of " + value, m.word(0), Check.codeAt(value, 3, 7, 8));
            Check.same("an H of " + value, m.word(1), Check.codeAt(value, 2, 5, 31));
        }
        for (String value : new String[] {"-4096", "4096", "4097", "8192", "-8191", "32767*32769", "-32767*32769", "1(1:1)"}) {
            Check.wrongIn(2, "", " LDA A", "", "A EQU " + value, " END 0");
            Check.wrongIn(2, "", " LDA 1F", "", "1H EQU " + value, " END 0");
        }
        Check.right("A EQU 4096", "1H EQU 4096", " LDA A-1", " LDA 1B-1", " END 0");
        MixMachine m = Check.assembled(" LDA A", " LDA 1F", " ORIG 4095", "A ORIG *", "1H ORIG 9", " END 0");
        Check.same("a place that is far", m.word(0), Check.code(4095, 0, 5, 8));
        Check.same("a place that is far", m.word(1), Check.code(4095, 0, 5, 8));
        Check.wrongIn(1, " LDA A", " ORIG 4096", "A ORIG 9", " END 0");
        Check.wrongIn(1, " LDA 1F", " ORIG 4096", "1H ORIG 9", " END 0");
    }

    private static void lineByWhichItCame() {
        Check.sentence("else the line by which it came is wrong");
        Check.wrongIn(3, " LDA B", " LDA B", " LDA A", " LDA A", "A EQU 4096", "B EQU 4096", " END 0");
        Check.wrongIn(1, " LDA B", " LDA B", " LDA A", " LDA A", "B EQU 4096", "A EQU 4096", " END 0");
        Check.wrongIn(2, " LDA 2F", " LDA 1F", "1H EQU 4096", "2H EQU 4096", " END 0");
        MixMachine m = new MixMachine();
        m.poke(0, 77);
        Check.type(m, Check.lines(" LDA A", "A EQU 4096", " END 0"));
        Check.refuses("4096", Check.ARGUMENT, () -> m.assemble());
        Check.same("memory stays", m.word(0), 77);
        Check.refuses("no symbol", Check.ELEMENT, () -> m.symbol('A'));
    }

    private static void signsWaitedFor() {
        Check.sentence("(its word's sign, also of 0, and magnitude");
        MixMachine m = Check.assembled(" LDA A", " LDA B", " LDA 1F", " LDA 2F", "A EQU 0", "B EQU -1(0)", "1H EQU 0", "2H EQU -1(0)", " LDA B", " LDA 2B", " END 0");
        Check.same("plus 0", m.word(0), Check.code(0, 0, 5, 8));
        Check.same("minus 0", m.word(1), Check.minusCode(0, 0, 5, 8));
        Check.same("plus 0 of an H", m.word(2), Check.code(0, 0, 5, 8));
        Check.same("minus 0 of an H", m.word(3), Check.minusCode(0, 0, 5, 8));
        Check.same("one that does not wait is an expression", m.word(4), Check.code(0, 0, 5, 8));
        Check.same("one that does not wait is an expression", m.word(5), Check.code(0, 0, 5, 8));
        m = Check.assembled(" LDA A", " ORIG -3", "A ORIG 50", " END 0");
        Check.same("a place that is minus", m.word(0), Check.minusCode(3, 0, 5, 8));
    }

    private static void asSoonAs() {
        Check.sentence("as soon as that has its value");
        MixMachine m = Check.assembled(" LDA A", "A EQU 5", " ORIG 0", " CON 7", " END 0");
        Check.same("what comes behind stands", m.word(0), 14);
        m = Check.assembled(" LDA A", " ORIG 0", " CON 7", "A EQU 5", " END 0");
        Check.same("what came before gets it", m.word(0), Check.bytes(1, 0, 5, 0, 0, 7));
        m = Check.assembled(" LDA 1F", "1H EQU 5", " ORIG 0", " CON 7", "1H EQU 6", " END 0");
        Check.same("it waits only once", m.word(0), 14);
        m = Check.assembled(" LDA A", " LDA A", "A EQU 5", " LDA A", " END 0");
        for (int i = 0; i < 3; i++) {
            Check.same("all of them", m.word(i), Check.code(5, 0, 5, 8));
        }
    }

    private static void whatStandsAtItsPlace() {
        Check.sentence("it is put into what stands at its place then");
        MixMachine m = Check.assembled(" LDA A,1(3)", " ORIG 0", " CON -17314053", "A EQU 130", " END 0");
        Check.same("a word that is minus", m.word(0), Check.bytes(1, 2, 2, 3, 4, 5));
        m = Check.assembled(" LDA A,1(3)", " ORIG 0", " CON 17314053", "A EQU -130", " END 0");
        Check.same("a value that is minus", m.word(0), Check.bytes(-1, 2, 2, 3, 4, 5));
        m = Check.assembled(" LDA A", " ORIG 0", " LDX B", "A EQU 7", "B EQU 9", " END 0");
        Check.same("the one that has its value last", m.word(0), Check.code(9, 0, 5, 15));
        m = Check.assembled(" LDA A", " ORIG 0", " LDX B", "B EQU 9", "A EQU 7", " END 0");
        Check.same("the one that has its value last", m.word(0), Check.code(7, 0, 5, 15));
        m = Check.assembled(" LDA A", " ORIG 0", " LDX =5=", "A EQU 7", " END 0");
        Check.same("a literal, which END places", m.word(0), Check.code(1, 0, 5, 15));
    }

    private static void nextH() {
        Check.sentence("a digit's F the next such H");
        for (char digit = '0'; digit <= '9'; digit++) {
            char other = (char) ('0' + (digit - '0' + 1) % 10);
            MixMachine m = Check.assembled(digit + "H NOP", " LDA " + digit + "F", other + "H NOP", digit + "H NOP", digit + "H NOP", other + "H LDA " + digit + "F", digit + "H EQU 77", " END 0");
            Check.same("the next", m.word(1), Check.code(3, 0, 5, 8));
            Check.same("the next", m.word(5), Check.code(77, 0, 5, 8));
        }
    }

    private static String name(int i) {
        return i < 26 ? "" + (char) ('A' + i) : "A" + (char) ('A' + i - 26);
    }

    private static String labels(int count) {
        StringBuilder text = new StringBuilder();
        for (int i = 0; i < count; i++) {
            text.append(name(i)).append(" IN\n");
        }
        return text.toString();
    }

    private static String references(int count) {
        StringBuilder text = new StringBuilder();
        for (int i = 0; i < count; i++) {
            text.append(" IN ").append(name(i)).append('\n');
        }
        return text.toString();
    }

    private static void symbolLimit() {
        Check.sentence("At most 30 symbols", "one too many is wrong in its line");
        for (int count : new int[] {29, 30}) {
            Check.right(labels(count) + " END 0");
            Check.right(references(count) + " END 0");
            MixMachine m = Check.assembled(labels(count) + " END 0");
            for (int i = 0; i < count; i++) {
                Check.same("symbol " + name(i), m.symbol(Check.pack(name(i))), Check.word(i));
            }
        }
        Check.wrongIn(31, labels(31) + " END 0");
        Check.wrongIn(31, references(31) + " END 0");
        Check.wrongIn(31, labels(31));
        Check.wrongIn(31, labels(30) + " IN ZZ\n END 0");
        Check.wrongIn(31, references(30) + "ZZ IN\n END 0");
        Check.wrongIn(31, references(30) + "ZZ EQU 5\n END 0");
        Check.wrongIn(31, references(30) + "ZZ ORIG 5\n END 0");
        Check.wrongIn(30, labels(29) + "ZZ IN ZY\n END 0");
        Check.right(labels(29) + "ZZ IN ZZ\n END 0");
        Check.right(labels(28) + "ZZ IN ZY\n END 0");
    }

    private static void symbolsThatAreNone() {
        Check.sentence("At most 30 symbols", "a digit's H, B and F are none, nor one that has come before");
        Check.right(labels(30) + "1H IN\n IN 1B\n IN 2F\n2H IN\n END 0");
        Check.right(labels(30) + " IN A\n IN AD\n END A");
        Check.right(references(30) + " IN A\n IN AD\nA IN\nAD IN\n END A");
        Check.right(references(28) + "AC IN AC\nAD IN AD\nA IN AD\n END 0");
    }

    private static void symbolsThatEndPlaces() {
        Check.sentence("each symbol without a value gets the place, in the order in which they came", "thirty of them");
        MixMachine m = Check.assembled(references(30) + " END 0");
        for (int i = 0; i < 30; i++) {
            Check.same("symbol " + name(i), m.symbol(Check.pack(name(i))), Check.word(30 + i));
            Check.same("its reference", m.word(i), Check.code(30 + i, 0, 0, 36));
        }
        Check.right(references(30) + " ORIG 170\n END 0");
        Check.wrongIn(32, references(30) + " ORIG 171\n END 0");
    }

    private static void literalLimit() {
        Check.sentence("20 literals", "one too many is wrong in its line");
        for (int count : new int[] {19, 20}) {
            MixMachine m = Check.assembled(" IN =3=\n".repeat(count) + " END 0");
            for (int i = 0; i < count; i++) {
                Check.same("literal " + i, m.word(count + i), 6);
                Check.same("its reference", m.word(i), Check.code(count + i, 0, 0, 36));
            }
            Check.same("no more", m.word(2 * count), 0);
        }
        Check.wrongIn(21, " IN =3=\n".repeat(21) + " END 0");
        Check.wrongIn(21, " IN =3=\n".repeat(22) + " END 0");
        Check.wrongIn(23, " IN =3=\n".repeat(20) + " IN\n\n IN =3=\n END 0");
        Check.wrongIn(21, " IN =3=\n".repeat(21));
        Check.right(" IN =3=\n".repeat(20) + " ORIG 180\n END 0");
        Check.wrongIn(22, " IN =3=\n".repeat(20) + " ORIG 181\n END 0");
    }

    private static void literalsWithSymbols() {
        Check.sentence("At most 30 symbols, 20 literals", "each by itself");
        StringBuilder text = new StringBuilder();
        for (int i = 0; i < 24; i++) {
            text.append(name(i)).append(" IN").append(i < 13 ? " =3=" : "").append('\n');
        }
        MixMachine m = Check.assembled(text + " END 0");
        Check.same("the last symbol", m.symbol(Check.pack(name(23))), Check.word(23));
        Check.same("the last literal's place", m.word(12), Check.code(36, 0, 0, 36));
        m = Check.assembled(" IN =3=\n".repeat(20) + "A IN\nB IN\n IN C\n END 0");
        Check.same("a symbol behind 20 literals", m.symbol('C'), Check.word(23));
        Check.same("the first literal", m.word(0), Check.code(24, 0, 0, 36));
    }

    private static void manyThatWait() {
        Check.sentence("60 that wait in all, be it for something that has come", "no right text has room for more than 39");
        MixMachine m = Check.assembled(" IN A\n".repeat(39) + " END 0");
        Check.same("240 characters", m.erase(), 240);
        for (int i = 0; i < 39; i++) {
            Check.same("wait " + i, m.word(i), Check.code(39, 0, 0, 36));
        }
        m = Check.assembled(" IN A\n".repeat(18) + "A IN\n" + " IN B\n".repeat(18) + " END 0");
        Check.same("for something that has come", m.word(17), Check.code(18, 0, 0, 36));
        Check.same("for something that comes at END", m.word(36), Check.code(37, 0, 0, 36));
        m = Check.assembled(" IN 1F\n".repeat(15) + "1H IN\n" + " IN 1F\n".repeat(15) + "1H IN\n END 0");
        Check.same("for an H", m.word(14), Check.code(15, 0, 0, 36));
        Check.same("for the next H", m.word(30), Check.code(31, 0, 0, 36));
    }

    private static void withoutEnd() {
        Check.sentence("A text without END is wrong in the line behind the last one");
        Check.wrongIn(2, " NOP");
        Check.wrongIn(3, " NOP\n");
        Check.wrongIn(3, " NOP", " NOP");
        Check.wrongIn(4, " NOP", " NOP\n");
        Check.wrongIn(2, "* END 0");
        Check.wrongIn(2, "A EQU 5");
        Check.wrongIn(3, " JMP 1F", " JMP A");
        Check.wrongIn(3, " ORIG 300", " ORIG 0");
        Check.wrongIn(4, " NOP", "*", " ");
        Check.wrongIn(1, "END 0");
        Check.wrongIn(41, " IN A\n".repeat(40).substring(0, 239));
        Check.wrongIn(42, " IN A\n".repeat(40));
    }

    private static void digitThatWaitsAtEnd() {
        Check.sentence("one where a digit's F waits at END in that line");
        for (char digit = '0'; digit <= '9'; digit++) {
            Check.wrongIn(3, " JMP " + digit + "F", "", " END 0", digit + "H NOP", " FOO");
            Check.wrongIn(3, digit + "H JMP " + digit + "F", "", " END 0");
            Check.wrongIn(4, " JMP " + digit + "F", digit + "H JMP " + digit + "F", " JMP A", " END 0");
            Check.right(" JMP " + digit + "F", digit + "H NOP", " END 0");
        }
        Check.wrongIn(2, " JMP 1F,1", " END 0");
        Check.wrongIn(3, " JMP 1F", "2H NOP", " END 0");
    }

    private static void eachTextByItself() {
        Check.sentence("Assembles the text", "whatever waited, or was counted, in texts before is no part of it");
        MixMachine m = new MixMachine();
        String[] before = {" JMP 1F", " JMP 1F\n JMP A\n LDA =5=\n FOO", references(31), " IN =3=\n".repeat(21), "1H NOP\nA NOP\n END 200", references(30) + " END 0"};
        for (String text : before) {
            Check.type(m, text);
            try {
                m.assemble();
            } catch (IllegalArgumentException e) {
                Check.same("line", m.line() > 0, true);
            }
            Check.type(m, " END 7");
            Check.same("start", m.assemble(), 7);
            Check.refuses("no symbol is left", Check.ELEMENT, () -> m.symbol('A'));
            m.poke(0, 99);
            m.poke(1, 99);
            Check.type(m, " ORIG 1\nA EQU 5\n1H EQU 6\n END 7");
            Check.same("start", m.assemble(), 7);
            Check.same("nothing is filled in", m.word(0), 99);
            Check.same("nothing is filled in", m.word(1), 99);
        }
        Check.type(m, " CON 1B\n END 0");
        Check.refuses("an H of a text before", Check.ARGUMENT, () -> m.assemble());
        for (int i = 0; i < 3; i++) {
            Check.type(m, references(30) + " END 0");
            Check.same("thirty symbols again", m.assemble(), 0);
            Check.type(m, " IN =3=\n".repeat(20) + " END 0");
            Check.same("twenty literals again", m.assemble(), 0);
        }
    }

    private static void firstWrongLine() {
        Check.sentence("The number, from 1, of the line that was wrong", "the first one");
        Check.wrongIn(1, " FOO", " FOO", " END 300");
        Check.wrongIn(2, " JMP 1F", " FOO", " END 0");
        Check.wrongIn(2, " LDA A", " FOO", "A EQU 4096", " END 0");
        Check.wrongIn(1, " LDA A", "A EQU 4096", " FOO", " END 0");
        Check.wrongIn(2, " JMP 1F", " END 300");
    }
}
