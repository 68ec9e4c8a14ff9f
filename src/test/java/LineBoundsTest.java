import java.util.ArrayList;
import java.util.HashMap;
import java.util.List;
import java.util.Map;

/** Texts, lines, labels, operations and their address parts at the bounds. */
public final class LineBoundsTest {
    private static final String CAPITALS_AND_DIGITS = "ABCDEFGHIJKLMNOPQRSTUVWXYZ0123456789";

    public static void main(String[] args) {
        charactersOfTexts();
        longestTexts();
        lineEnds();
        emptyTexts();
        linesThatAreNothing();
        partsOfLines();
        endsBeforeASpace();
        anythingBehind();
        labelsOfOneCharacter();
        labelsOfTwoCharacters();
        lengthOfLabels();
        labelsWithAValue();
        labelsReferredTo();
        operationNames();
        longerOperationNames();
        directivesNeedAnAddressPart();
        indexBounds();
        fBounds();
        fThatIsTold();
        partsThatAreMissing();
        orderOfParts();
        Check.end();
    }

    private static boolean isRight(String text) {
        MixMachine m = new MixMachine();
        Check.type(m, text);
        try {
            m.assemble();
            return true;
        } catch (IllegalArgumentException e) {
            return false;
        }
    }

    private static void stands(String line, int due) {
        Check.same(line, Check.assembled(" " + line, " END 0").word(0), due);
    }

    private static void charactersOfTexts() {
        Check.sentence("TEXTS have at most 240 characters, 32 .. 126, and 10, which ends lines.");
        StringBuilder all = new StringBuilder();
        for (char c = 32; c <= 126; c++) {
            all.append(c);
        }
        Check.right("*" + all, " NOP 0 " + all, " END 3 ");
        Check.right(" END 3 " + all + "\n" + all);
        for (char c = 33; c <= 126; c++) {
            Check.same("an address part of " + c + " alone", isRight(" NOP " + c + "\n END 0"), c >= '0' && c <= '9' || c >= 'A' && c <= 'Z' || c == '*');
            Check.same("an address part of 5 and " + c, isRight(" NOP 5" + c + "\n END 0"), CAPITALS_AND_DIGITS.indexOf(c) >= 0 && "HBF".indexOf(c) < 0);
            Check.same("an operation and " + c, isRight(" NOP" + c + "\n END 0"), false);
        }
    }

    private static void longestTexts() {
        Check.sentence("TEXTS have at most 240 characters");
        for (int length = 230; length <= 240; length++) {
            String text = " NOP" + " ".repeat(length - 13) + "\n END 199";
            MixMachine m = new MixMachine();
            Check.type(m, text.substring(text.length() - length));
            Check.same("length " + length, m.assemble(), 199);
            Check.same("length", m.erase(), length);
        }
        String last = " CON " + "1+".repeat(113) + "1\n END 19";
        MixMachine m = Check.assembled(last);
        Check.same("the last character counts", m.state(0), 19);
        Check.same("114 times 1", m.word(0), Check.word(114));
        Check.same("240 characters", m.erase(), 240);
    }

    private static void lineEnds() {
        Check.sentence("there are as many as line ends, and one more");
        for (int ends = 0; ends <= 240; ends++) {
            Check.wrongIn(ends + 2, "\n".repeat(ends));
            if (ends <= 239) {
                Check.wrongIn(ends + 2, "\n".repeat(ends) + " ");
                Check.wrongIn(ends + 2, "*" + "\n".repeat(ends));
            }
            if (ends <= 234) {
                Check.right("\n".repeat(ends) + " END 0");
            }
        }
    }

    private static void emptyTexts() {
        Check.sentence("an empty text is wrong in line 2");
        Check.wrongIn(2, "");
        MixMachine m = Check.used();
        m.erase();
        Check.refuses("a text that was erased", Check.ARGUMENT, () -> m.assemble());
        Check.same("line", m.line(), 2);
    }

    private static void linesThatAreNothing() {
        Check.sentence("A line with nothing but spaces, or * as its first character, is nothing.");
        for (String nothing : new String[] {"", " ", "      ", "*", "**", "* END 5", "*END 5", "*A CON 5"}) {
            MixMachine m = Check.assembled(nothing, " CON *+1", nothing, nothing, " CON *+1", nothing, " END 0", nothing);
            Check.same("nothing stands: " + nothing, m.word(0), 2);
            Check.same("nothing stands: " + nothing, m.word(1), 4);
            Check.same("nothing stands: " + nothing, m.word(2), 0);
            Check.wrongIn(3, nothing, nothing, " FOO", " END 0");
        }
        Check.wrongIn(1, " *", " END 0");
        Check.wrongIn(1, " * NOP", " END 0");
        Check.wrongIn(1, "A* NOP", " END 0");
        Check.wrongIn(1, "    .", " END 0");
    }

    private static void partsOfLines() {
        Check.sentence("A LINE: perhaps a LABEL, from its first character on; spaces; an OPERATION; perhaps spaces and an ADDRESS PART; perhaps spaces and anything.");
        for (String line : new String[] {" CON 5", "A CON 5", "A     CON     5", "      CON 5   ", "A CON 5 6 7", "1H CON 5 END", " CON 5     ="}) {
            MixMachine m = Check.assembled(line, " END 0");
            Check.same(line, m.word(0), 10);
        }
        for (String line : new String[] {"CON 5", "CON", "A", "A ", "1H", "1H   ", "A 5", "A A", " 5", " A", " ,1", " =5=", "A,CON 5", "A:CON 5"}) {
            Check.wrongIn(1, line, " END 0");
        }
        for (String line : new String[] {" NOP", "A NOP", " NOP ", " NOP     "}) {
            Check.same(line, Check.assembled(line, " CON *", " END 0").word(1), 2);
        }
        Check.same("a line that the text's end ends", Check.assembled(" END 7").state(0), 7);
        Check.same("END with what else is there", Check.assembled("   END   7   ANYTHING").state(0), 7);
    }

    private static void endsBeforeASpace() {
        Check.sentence("Each of these ends before a space (what stands behind an operation's spaces is its address part).");
        stands("NOP 5", Check.code(5, 0, 0, 0));
        stands("NOP     5", Check.code(5, 0, 0, 0));
        stands("NOP 5 ,1", Check.code(5, 0, 0, 0));
        stands("NOP 5,1 (3)", Check.code(5, 1, 0, 0));
        stands("CON 5 +6", 10);
        stands("CON 5 (1:1)", 10);
        for (String line : new String[] {"NOP anything", "NOP ; 5", "CON 5+ 6", "CON 5, 6", "NOP 5( 3)", "NOP 5, 1", "NOP =5 =", "NOP = 5=", "NOP - 5", "HLT ."}) {
            Check.wrongIn(1, " " + line, " END 0");
        }
        Check.wrongIn(1, "A B NOP 5", " END 0");
        Check.wrongIn(1, "1 H NOP 5", " END 0");
        Check.wrongIn(1, " LD A 5", " END 0");
    }

    private static void anythingBehind() {
        Check.sentence("perhaps spaces and anything");
        String[] anything = {"=", "(", "FOO", "* END", "~!@#", ",1", "a b c", "\"", "1/0"};
        for (String more : anything) {
            stands("NOP 5 " + more, Check.code(5, 0, 0, 0));
            stands("CON 5   " + more, 10);
            Check.same("END", Check.assembled(" END 9 " + more).state(0), 9);
            Check.same("EQU", Check.assembled("A EQU 5 " + more, " END A").state(0), 5);
            Check.same("ORIG", Check.assembled(" ORIG 5 " + more, " END *").state(0), 5);
        }
    }

    private static void labelsOfOneCharacter() {
        Check.sentence("SYMBOLS are one to six capitals and digits, one capital at least");
        for (char c = 33; c <= 126; c++) {
            if (c != '*') {
                Check.same("label " + c, isRight(c + " NOP\n END 0"), c >= 'A' && c <= 'Z');
                Check.same("label A" + c, isRight("A" + c + " NOP\n END 0"), CAPITALS_AND_DIGITS.indexOf(c) >= 0);
                Check.same("label " + c + "A", isRight(c + "A NOP\n END 0"), CAPITALS_AND_DIGITS.indexOf(c) >= 0);
            }
            boolean isCapital = c >= 'A' && c <= 'Z';
            Check.same("reference to " + c, isRight(" NOP " + c + "\n END 0"), isCapital || c >= '0' && c <= '9' || c == '*');
        }
    }

    private static void labelsOfTwoCharacters() {
        Check.sentence("but not a digit with H, B or F behind it.");
        for (char digit = '0'; digit <= '9'; digit++) {
            for (char c : CAPITALS_AND_DIGITS.toCharArray()) {
                boolean isDigit = c >= '0' && c <= '9';
                String name = "" + digit + c;
                Check.same("label " + name, isRight(name + " NOP\n END 0"), !isDigit && c != 'B' && c != 'F');
                Check.same("symbol " + name, isRight(name + " EQU 5\n END " + name), !isDigit && c != 'B' && c != 'F' && c != 'H');
                Check.same("symbol " + name + " before it has a value", isRight(" NOP " + name + "\n END 0"), c != 'B' && c != 'F' && c != 'H');
                Check.same("symbol " + c + digit, isRight(c + "" + digit + " EQU 5\n END " + c + digit), !isDigit);
            }
            for (String longer : new String[] {"H", "B", "F"}) {
                Check.right(digit + longer + "A EQU 5", " END " + digit + longer + "A");
                Check.right("1" + digit + longer + " EQU 5", " END 1" + digit + longer);
                Check.right("A" + digit + longer + " EQU 5", " END A" + digit + longer);
                Check.right(longer + digit + " EQU 5", " END " + longer + digit);
                Check.right(longer + " EQU 5", " END " + longer);
            }
        }
    }

    private static void lengthOfLabels() {
        Check.sentence("one to six capitals and digits");
        String[] longest = {"ABCDEFGH", "Z9999999", "ZZZZZZZZ"};
        for (String letters : longest) {
            for (int length = 1; length <= 8; length++) {
                String name = letters.substring(0, length);
                Check.same("label " + name, isRight(name + " NOP\n END 0"), length <= 6);
                Check.same("reference to " + name, isRight(" NOP " + name + "\n END 0"), length <= 6);
                Check.same("value of " + name, isRight(name + " EQU 5\n CON -" + name + "+1\n END 0"), length <= 6);
            }
        }
        Check.right("99999A NOP", "A99999 NOP", "999A99 NOP", " END 99999A");
        Check.wrongIn(1, "999999A NOP", " END 0");
        Check.wrongIn(1, "123456 NOP", " END 0");
        Check.wrongIn(2, "ABCDEF EQU 5", " NOP ABCDEFG", " END 0");
        MixMachine m = Check.assembled("ABCDEF EQU 5", "ABCDEG EQU 6", "ABCDE EQU 7", "BCDEF EQU 8", " CON ABCDEF", " CON ABCDEG", " CON ABCDE", " CON BCDEF", " END 0");
        for (int i = 0; i < 4; i++) {
            Check.same("all six count, " + i, m.word(i), Check.word(5 + i));
        }
    }

    private static void labelsWithAValue() {
        Check.sentence("A label is a symbol without a value");
        for (String first : new String[] {"A NOP", "A EQU 5", "A ORIG 5", "A CON 5"}) {
            for (String second : new String[] {"A NOP", "A EQU 5", "A ORIG 5", "A CON 5"}) {
                Check.wrongIn(3, first, "", second, " END 0");
            }
        }
        Check.right("1H NOP", "1H NOP", "1H EQU 5", "1H CON 5", "1H ORIG 5", " END 0");
    }

    private static void labelsReferredTo() {
        Check.sentence("(also one that was referred to)");
        for (String label : new String[] {"A NOP", "A EQU 1", "A ORIG 1", "A CON 1"}) {
            MixMachine m = Check.assembled(" JMP A", label, " END 0");
            Check.same(label, m.word(0), Check.code(1, 0, 0, 39));
            Check.wrongIn(3, " JMP A", label, label, " END 0");
        }
    }

    private static Map<String, Integer> operations() {
        String[] plain = {"NOP", "ADD", "SUB", "MUL", "DIV", "NUM", "CHAR", "HLT", "SLA", "SRA", "SLAX", "SRAX", "SLC", "SRC", "MOVE", "STJ", "STZ",
            "JBUS", "IOC", "IN", "OUT", "JRED", "JMP", "JSJ", "JOV", "JNOV", "JL", "JE", "JG", "JGE", "JNE", "JLE"};
        int[] codes = {0, 1, 2, 3, 4, 5, 5, 5, 6, 6, 6, 6, 6, 6, 7, 32, 33, 34, 35, 36, 37, 38, 39, 39, 39, 39, 39, 39, 39, 39, 39, 39};
        int[] fs = {0, 5, 5, 5, 5, 0, 1, 2, 0, 1, 2, 3, 4, 5, 1, 2, 5, 0, 0, 0, 0, 0, 0, 1, 2, 3, 4, 5, 6, 7, 8, 9};
        Map<String, Integer> all = new HashMap<>();
        for (int i = 0; i < plain.length; i++) {
            all.put(plain[i], codes[i] + 64 * fs[i]);
        }
        String[] before = {"LD", "LD", "ST", "J", "J", "J", "J", "J", "J", "INC", "DEC", "ENT", "ENN", "CMP"};
        String[] behind = {"", "N", "", "N", "Z", "P", "NN", "NZ", "NP", "", "", "", "", ""};
        int[] first = {8, 16, 24, 40, 40, 40, 40, 40, 40, 48, 48, 48, 48, 56};
        int[] kinds = {5, 5, 5, 0, 1, 2, 3, 4, 5, 0, 1, 2, 3, 5};
        for (int i = 0; i < before.length; i++) {
            for (int r = 0; r < 8; r++) {
                all.put(before[i] + "A123456X".charAt(r) + behind[i], first[i] + r + 64 * kinds[i]);
            }
        }
        return all;
    }

    private static void isOperation(String name, Map<String, Integer> all) {
        Integer due = all.get(name);
        String text = " " + name + " 70,3\n END 0";
        if (due == null) {
            Check.same("operation " + name, isRight(text), false);
        } else {
            Check.same("operation " + name, Check.assembled(text).word(0), Check.code(70, 3, due / 64, due % 64));
        }
    }

    private static void operationNames() {
        Check.sentence("and instructions: NOP ADD SUB MUL DIV NUM CHAR HLT SLA SRA SLAX SRAX SLC SRC MOVE STJ STZ JBUS IOC IN OUT JRED, those of 39, and with r (A, 1 .. 6, X): LDr LDrN STr JrN JrZ JrP JrNN JrNZ JrNP INCr DECr ENTr ENNr CMPr.");
        Map<String, Integer> all = operations();
        Check.same("instructions", all.size(), 32 + 14 * 8);
        List<String> names = new ArrayList<>();
        names.add("");
        for (int length = 1; length <= 3; length++) {
            List<String> longer = new ArrayList<>();
            for (String name : names) {
                for (char c : CAPITALS_AND_DIGITS.toCharArray()) {
                    longer.add(name + c);
                }
            }
            names = longer;
            for (String name : names) {
                if (!name.equals("CON") && !name.equals("EQU") && !name.equals("END")) {
                    isOperation(name, all);
                }
            }
        }
        Check.right("A EQU 5", " ORIG A", " CON A", " END A");
    }

    private static void longerOperationNames() {
        Check.sentence("What can't be read so is WRONG.");
        Map<String, Integer> all = operations();
        for (String name : new ArrayList<>(all.keySet())) {
            isOperation(name, all);
            for (char c = 33; c <= 126; c++) {
                isOperation(name + c, all);
                isOperation(c + name, all);
                for (int at = 0; at < name.length(); at++) {
                    isOperation(name.substring(0, at) + c + name.substring(at + 1), all);
                }
            }
            isOperation(name.toLowerCase(), all);
        }
        for (String name : new String[] {"ORI", "ORIGX", "CONX", "CO", "ENDX", "EN", "EQUX", "EQ", "con", "Con", "LDA5", "CHARCHAR", "NOPNOPNOP", "LDrN", "LDr"}) {
            Check.wrongIn(1, " " + name + " 5", " END 0");
        }
    }

    private static void directivesNeedAnAddressPart() {
        Check.sentence("as address part (there must be one)");
        for (String line : new String[] {"A EQU", "A EQU ", " ORIG", " ORIG   ", " CON", " CON ", " END", " END ", "A EQU ,", " CON (5)", " ORIG ()", " END ,5", " CON =5=", " ORIG 5,1,", " CON 1F"}) {
            Check.wrongIn(1, line, " END 0");
        }
        Check.sentence("with a W (as CON's, with fields and further W's)");
        Check.same("EQU", Check.assembled("A EQU 7(5:5),1(4:4)", " END A").state(0), 71);
        Check.same("ORIG", Check.assembled(" ORIG 7(5:5),1(4:4)", " END *").state(0), 71);
        Check.same("END", Check.assembled(" END 7(5:5),1(4:4)").state(0), 71);
        Check.same("CON", Check.assembled(" CON 7(5:5),1(4:4)", " END 0").word(0), Check.word(71));
        Check.same("the later one counts", Check.assembled(" END 200,5").state(0), 5);
        Check.wrongIn(1, " END 5,200");
    }

    private static void indexBounds() {
        Check.sentence("perhaps \",\" and an expression, the index, 0 .. 6");
        for (int index = -3; index <= 70; index++) {
            if (index >= 0 && index <= 6) {
                stands("LDA 5," + index, Check.code(5, index, 5, 8));
                stands("JMP ," + index, Check.code(0, index, 0, 39));
                stands("LDA =5=," + index, Check.code(1, index, 5, 8));
            } else {
                Check.wrongIn(1, " LDA 5," + index, " END 0");
                Check.wrongIn(1, " JMP A," + index, " END 0");
            }
        }
        stands("LDA 5,-0", Check.code(5, 0, 5, 8));
        stands("LDA 5,+6", Check.code(5, 6, 5, 8));
        stands("LDA 5,3*2", Check.code(5, 6, 5, 8));
        stands("LDA 5,7-1", Check.code(5, 6, 5, 8));
        stands("LDA 5,*", Check.code(5, 0, 5, 8));
        for (String part : new String[] {"5,", "5,,1", "5,A", "5,1F", "5,1H", "5,=1=", "5,6+1", "5,0-1", "5,64", "5,4294967296", "5,3.0"}) {
            Check.wrongIn(1, " LDA " + part, " END 0");
        }
    }

    private static void fBounds() {
        Check.sentence("perhaps \"(\", an expression 0 .. 63, and \")\", the F");
        for (int f = -3; f <= 70; f++) {
            if (f >= 0 && f <= 63) {
                stands("LDA 5,1(" + f + ")", Check.code(5, 1, f, 8));
                stands("NOP (" + f + ")", Check.code(0, 0, f, 0));
            } else {
                Check.wrongIn(1, " LDA 5,1(" + f + ")", " END 0");
                Check.wrongIn(1, " NOP (" + f + ")", " END 0");
            }
        }
        stands("LDA 5(0:0)", Check.code(5, 0, 0, 8));
        stands("LDA 5(7:7)", Check.code(5, 0, 63, 8));
        stands("LDA 5(5:0)", Check.code(5, 0, 40, 8));
        stands("LDA 5(-0)", Check.code(5, 0, 0, 8));
        stands("LDA =5=(1:2)", Check.code(1, 0, 10, 8));
        for (String part : new String[] {"5(8:0)", "5(0-1)", "5()", "5(", "5)", "5(1", "5(1))", "5((1))", "5(1)(1)", "5(A)", "5(1F)", "5(1,2)", "5(=1=)", "5(1)+1", "5(1)A", "5(128)", "5(1073741823)"}) {
            Check.wrongIn(1, " LDA " + part, " END 0");
        }
    }

    private static void fThatIsTold() {
        Check.sentence("F is as told above where the name tells it (then it must not be told), else 5, but 2 for STJ, 1 for MOVE, 0 for NOP and units");
        for (Map.Entry<String, Integer> one : operations().entrySet()) {
            int code = one.getValue() % 64;
            int f = one.getValue() / 64;
            boolean tellsF = code == 5 || code == 6 || code >= 39 && code <= 55;
            int elseF = code == 32 ? 2 : code == 7 ? 1 : code == 0 || code >= 34 && code <= 38 ? 0 : 5;
            if (!tellsF) {
                Check.same(one.getKey() + " alone", f, elseF);
            }
            String name = one.getKey();
            stands(name, Check.code(0, 0, f, code));
            for (int told : new int[] {0, f, 63}) {
                if (tellsF) {
                    Check.wrongIn(1, " " + name + " 5(" + told + ")", " END 0");
                    Check.wrongIn(1, " " + name + " (" + told + ")", " END 0");
                    Check.wrongIn(1, " " + name + " 5,1(" + told + ")", " END 0");
                } else {
                    stands(name + " 5(" + told + ")", Check.code(5, 0, told, code));
                    stands(name + " (" + told + ")", Check.code(0, 0, told, code));
                    stands(name + " 5,1(" + told + ")", Check.code(5, 1, told, code));
                }
            }
        }
    }

    private static void partsThatAreMissing() {
        Check.sentence("Without, index and A-part are 0");
        stands("LDA", Check.code(0, 0, 5, 8));
        stands("LDA ,6", Check.code(0, 6, 5, 8));
        stands("LDA (0)", Check.code(0, 0, 0, 8));
        stands("LDA ,6(63)", Check.code(0, 6, 63, 8));
        stands("LDA 4095", Check.code(4095, 0, 5, 8));
        stands("LDA 4095(0)", Check.code(4095, 0, 0, 8));
    }

    private static void orderOfParts() {
        Check.sentence("Their address part: perhaps an A-PART; perhaps \",\" and an expression, the index, 0 .. 6; perhaps \"(\", an expression 0 .. 63, and \")\", the F.");
        for (String part : new String[] {"5(1),2", ",1,2", "(1),2", "5,1(2)3", "5,1,", ",", "(", ")", "5,(1)", "5,1()", "=5=6", "=5=A", "=5==5=", "A(1),1", "1F,", "1F("}) {
            Check.wrongIn(2, "A EQU 1", " LDA " + part, "1H NOP", " END 0");
        }
        MixMachine m = Check.assembled(" LDA A,1(2)", " LDA 1F,2(3)", " LDA =9=,3(4)", "A NOP", "1H NOP", " END 0");
        Check.same("a symbol to come", m.word(0), Check.code(3, 1, 2, 8));
        Check.same("a digit's F", m.word(1), Check.code(4, 2, 3, 8));
        Check.same("a literal", m.word(2), Check.code(5, 3, 4, 8));
    }
}
