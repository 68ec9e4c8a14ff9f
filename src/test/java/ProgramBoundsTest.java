/** A-parts, expressions, W's, places, what waits, END and the limits of a program, at the bounds. */
public final class ProgramBoundsTest {
    private static final int ALL = 1073741823;

    public static void main(String[] args) {
        aPartMagnitudes();
        aPartAlone();
        literalsRead();
        expressionsFromTheLeft();
        signsBeforeExpressions();
        numbers();
        symbolsWithAValue();
        latestHAbove();
        placeAtHandAsAtom();
        tooGreat();
        colons();
        quotients();
        zeroIsPlus();
        fieldsOfW();
        wordsOfW();
        placeAtFirst();
        placeGrows();
        equLabels();
        equValues();
        labelIsThePlaceBefore();
        ownLine();
        placesWhereSomethingStands();
        starts();
        endHasNoLabel();
        nothingBehindEnd();
        symbolsAtEnd();
        literalsAtEnd();
        noPlaceAtEnd();
        filledInFirst();
        Check.end();
    }

    private static void value(String expression, long due) {
        Check.same(expression, Check.assembled(" CON " + expression, " END 0").word(0), Check.word(due));
    }

    private static void wrongCon(String expression) {
        Check.wrongIn(1, " CON " + expression, " END 0");
    }

    private static void aPartMagnitudes() {
        Check.sentence("or an expression, of magnitude below 4096");
        for (int address : new int[] {-4095, -4094, -1, 0, 1, 4094, 4095}) {
            Check.same("LDA " + address, Check.assembled(" LDA " + address, " END 0").word(0), Check.codeAt(address, 0, 5, 8));
        }
        for (String part : new String[] {"4096", "-4096", "4097", "-4097", "8191", "4095+1", "64*64", "-64*64", "0-4096", "999999999", "-999999999", "511:8"}) {
            Check.wrongIn(1, " LDA " + part, " END 0");
        }
        Check.same("less by what follows", Check.assembled(" LDA 4096-1", " END 0").word(0), Check.code(4095, 0, 5, 8));
        Check.same("by a symbol", Check.assembled("A EQU 4095", " LDA A", " END 0").word(0), Check.code(4095, 0, 5, 8));
        Check.wrongIn(2, "A EQU 4096", " LDA A", " END 0");
        Check.wrongIn(2, "1H EQU -4096", " LDA 1B", " END 0");
        Check.right("A EQU 4096", " LDA A-1", " END 0");
    }

    private static void aPartAlone() {
        Check.sentence("A-part: a symbol without a value, alone; a digit and F, alone");
        for (String part : new String[] {"A", "A,1", "A(1)", "A,1(1)", "1F", "1F,1", "1F(1)", "1F,1(1)"}) {
            Check.right(" LDA " + part, "A NOP", "1H NOP", " END 0");
        }
        for (String part : new String[] {"+A", "-A", "A+0", "0+A", "A*1", "A-A", "A:1", "A/1", "*+A", "=A=", "5,A", "5(A)", "+1F", "-1F", "1F+0", "0+1F", "=1F=", "5,1F", "5(1F)", "A.", "1F1F="}) {
            Check.wrongIn(1, " LDA " + part, "A NOP", "1H NOP", " END 0");
        }
        for (String line : new String[] {"B EQU A", " ORIG A", " CON A", " END A", "B EQU 1F", " ORIG 1F", " CON 1F", " END 1F", " CON 5(A)", " CON 1,A"}) {
            Check.wrongIn(1, line, "A NOP", "1H NOP", " END 0");
        }
        Check.right("A NOP", " LDA A+0", " LDA -A", " CON A*A:A", " END A");
    }

    private static void literalsRead() {
        Check.sentence("\"=\", W, \"=\"");
        MixMachine m = Check.assembled(" LDA =5=", " LDA =-5(0:2),7(5:5)=", " LDA =0=", " LDA =32767*32769=", " LDA =-1(0)=", " LDA =*=", " END 0");
        int[] due = {10, Check.bytes(-1, 0, 5, 0, 0, 7), 0, 2 * ALL, 1, 10};
        for (int i = 0; i < due.length; i++) {
            Check.same("literal " + i, m.word(6 + i), due[i]);
            Check.same("its address", m.word(i), Check.code(6 + i, 0, 5, 8));
        }
        for (String part : new String[] {"=", "==", "=5", "5=", "=5=5", "=5==", "=,=", "=5,=", "=5(6)=", "=5(5=", "=(5)=", "==5=", "=A=", "=1F=", "=1B=", "=32768*32768=", "=1/0=", "=5=+1", "-=5=", "1+=5="}) {
            Check.wrongIn(1, " LDA " + part, " END 0");
        }
        Check.right("A EQU 5", "1H EQU 6", " LDA =A+1B=", " END 0");
    }

    private static void expressionsFromTheLeft() {
        Check.sentence("and any times one of + - * / : (8 times the left side, plus the right one) and an atom, from the left.");
        value("1+2*3", 9);
        value("2*3+1", 7);
        value("1-2-3", -4);
        value("8/4/2", 1);
        value("7/2*2", 6);
        value("1+1:2", 18);
        value("1:2+3*4", 52);
        value("-1+2*3", 3);
        value("1" + "+1".repeat(110), 111);
        value("1" + "*1".repeat(110), 1);
        for (String expression : new String[] {"1+", "1-", "1*", "1/", "1:", "+", "-", "++1", "+-1", "-+1", "--1", "1+-1", "1++1", "1*-1", "1//1", "1::1", "/1", ":1", "*1", "1*+1", "1+(2)", "(1)", "1;2", "1%2", "1^2"}) {
            wrongCon(expression);
        }
        value("1 +", 1);
    }

    private static void signsBeforeExpressions() {
        Check.sentence("perhaps + or -, an ATOM");
        value("+5", 5);
        value("-5", -5);
        value("-5+3", -2);
        value("-5*3", -15);
        value("-5:3", -37);
        value("+0", 0);
        Check.same("of a symbol that is minus", Check.assembled("A EQU -5", " CON -A", " END 0").word(0), 10);
        Check.same("of the place at hand", Check.assembled(" ORIG 7", " CON -*", " END 0").word(7), 15);
        Check.same("of an index", Check.assembled(" LDA 5,+2(+3)", " END 0").word(0), Check.code(5, 2, 3, 8));
        Check.same("of a B", Check.assembled("1H EQU 5", " CON -1B", " END 0").word(0), 11);
    }

    private static void numbers() {
        Check.sentence("ATOM: one to nine digits");
        String digits = "123456789012";
        for (int length = 1; length <= 12; length++) {
            String number = digits.substring(0, length);
            String zeros = "0".repeat(length - 1) + "7";
            if (length <= 9) {
                value(number, Long.parseLong(number));
                value(zeros, 7);
                value("1+" + zeros, 8);
            } else {
                wrongCon(number);
                wrongCon(zeros);
                wrongCon("1+" + zeros);
                wrongCon(zeros + "+1");
                Check.wrongIn(1, " LDA " + zeros, " END 0");
                Check.wrongIn(1, " LDA 5," + zeros, " END 0");
                Check.wrongIn(1, " LDA 5(" + zeros + ")", " END 0");
            }
        }
        value("999999999", 999999999);
        value("-999999999", -999999999);
        value("000000000", 0);
        wrongCon("4294967297");
        wrongCon("18446744073709551617");
    }

    private static void symbolsWithAValue() {
        Check.sentence("a symbol with a value");
        Check.same("the greatest", Check.assembled("A EQU 32767*32769", " CON A", " END 0").word(0), 2 * ALL);
        Check.same("the smallest", Check.assembled("A EQU -32767*32769", " CON A", " END 0").word(0), 2 * ALL + 1);
        Check.wrongIn(2, "A EQU 32767*32769", " CON A+1", " END 0");
        Check.wrongIn(2, "A EQU -32767*32769", " CON A-1", " END 0");
        Check.wrongIn(1, " CON A", "A EQU 5", " END 0");
        Check.wrongIn(2, " LDA A", " CON A", "A EQU 5", " END 0");
        Check.wrongIn(1, " CON END", " END 0");
        Check.right("END EQU 5", "CON CON END", "NOP NOP CON", " END END");
        Check.wrongIn(1, " CON a", " END 0");
    }

    private static void latestHAbove() {
        Check.sentence("a digit and B (the latest such H above this line)");
        MixMachine m = Check.assembled("0H EQU 5", "9H EQU 6", " CON 0B", " CON 9B", "0H EQU 0B+10", " CON 0B", "0H CON 0B", " CON 0B", " END 0");
        int[] due = {5, 6, 15, 15, 3};
        for (int i = 0; i < due.length; i++) {
            Check.same("word " + i, m.word(i), Check.word(due[i]));
        }
        for (char digit = '0'; digit <= '9'; digit++) {
            Check.wrongIn(1, " CON " + digit + "B", digit + "H NOP", " END 0");
            Check.wrongIn(1, digit + "H CON " + digit + "B", " END 0");
            Check.right(digit + "H NOP", " CON " + digit + "B", " END " + digit + "B");
            Check.wrongIn(2, digit + "H NOP", " CON " + (char) ('0' + (digit - '0' + 1) % 10) + "B", " END 0");
        }
    }

    private static void placeAtHandAsAtom() {
        Check.sentence("* (the PLACE at hand)");
        Check.same("0 at first", Check.assembled(" CON *", " END 0").word(0), 0);
        MixMachine m = Check.assembled(" ORIG 199", "A CON *", "B EQU *", " ORIG -5", "C EQU *", " ORIG 32767*32769", "D EQU *", " END 0");
        Check.same("199", m.word(199), Check.word(199));
        Check.same("200 behind it", m.symbol('B'), Check.word(200));
        Check.same("below 0", m.symbol('C'), Check.word(-5));
        Check.same("the greatest", m.symbol('D'), 2 * ALL);
        value("***", 0);
        Check.same("* times *", Check.assembled(" ORIG 9", " CON ***+*-*/*:*", " END 0").word(9), Check.word(9 * 8 + 9));
        for (String expression : new String[] {"**", "*5", "5*", "****", "*A", "*1B"}) {
            wrongCon(expression);
        }
    }

    private static void tooGreat() {
        Check.sentence("Nothing may be 64^5 or more in magnitude");
        value("999999999+73741824", ALL);
        wrongCon("999999999+73741825");
        value("-999999999-73741824", -ALL);
        wrongCon("-999999999-73741825");
        value("32767*32769", ALL);
        wrongCon("32768*32768");
        value("-32767*32769", -ALL);
        wrongCon("-32768*32768");
        wrongCon("999999999*999999999");
        wrongCon("-999999999*999999999");
        wrongCon("32768*32768-1");
        wrongCon("32768*32768/2");
        wrongCon("32768*32768*0");
        wrongCon("1(32768*32768)");
        Check.wrongIn(1, " LDA 32768*32768*0", " END 0");
        Check.wrongIn(1, " LDA 1,32768*32768*0", " END 0");
        Check.wrongIn(1, " LDA 1(32768*32768*0)", " END 0");
        Check.wrongIn(1, "A EQU 32768*32768", " END 0");
        Check.wrongIn(1, " ORIG 32768*32768", " END 0");
        Check.wrongIn(1, " END 32768*32768*0");
    }

    private static void colons() {
        Check.sentence(": (8 times the left side, plus the right one)");
        value("0:0", 0);
        value("0:5", 5);
        value("5:5", 45);
        value("-1:3", -5);
        value("134217727:7", ALL);
        wrongCon("134217727:8");
        wrongCon("134217728:0");
        value("-134217727:0", -ALL + 7);
        wrongCon("-134217728:0");
        value("1:1:1", 73);
    }

    private static void quotients() {
        Check.sentence("nothing divided by 0 (towards 0 it goes)");
        value("7/2", 3);
        value("-7/2", -3);
        value("6/7", 0);
        value("-6/7", 0);
        value("0/5", 0);
        value("999999999/1", 999999999);
        Check.same("by what is minus", Check.assembled("A EQU -2", " CON 7/A", " CON -7/A", " CON -1/A", " END 0").word(0), Check.word(-3));
        Check.same("minus by minus", Check.assembled("A EQU -2", " CON 7/A", " CON -7/A", " END 0").word(1), Check.word(3));
        for (String expression : new String[] {"1/0", "0/0", "-1/0", "5/000000000", "1+1/0", "1/*", "1(1/0)"}) {
            wrongCon(expression);
        }
        Check.wrongIn(2, "A EQU 0", " CON 5/A", " END 0");
        Check.wrongIn(2, "A EQU -1(0)", " CON 5/A", " END 0");
        Check.wrongIn(1, " LDA 1/0", " END 0");
        Check.wrongIn(1, " LDA 5,1/0", " END 0");
        Check.wrongIn(1, " LDA 5(1/0)", " END 0");
        Check.wrongIn(1, " END 1/0");
    }

    private static void zeroIsPlus() {
        Check.sentence("0 is plus");
        for (String expression : new String[] {"-0", "0", "+0", "5-5", "-5+5", "-1/2", "-5*0", "0*0", "-0+0", "-0:0"}) {
            Check.same("CON " + expression, Check.assembled(" CON " + expression, " END 0").word(0), 0);
            Check.same("LDA " + expression, Check.assembled(" LDA " + expression, " END 0").word(0), Check.code(0, 0, 5, 8));
            Check.same("=" + expression + "=", Check.assembled(" LDA =" + expression + "=", " END 0").word(1), 0);
            Check.same("EQU " + expression, Check.assembled("A EQU " + expression, " END 0").symbol('A'), 0);
        }
        MixMachine m = Check.assembled("A EQU -1(0)", "1H EQU -1(0)", " CON A", " CON -A", " CON 1B", " LDA A", " LDA 1B", " LDA =A=", " END 0");
        int[] due = {0, 0, 0, Check.code(0, 0, 5, 8), Check.code(0, 0, 5, 8), Check.code(6, 0, 5, 8), 0};
        for (int i = 0; i < due.length; i++) {
            Check.same("of what is minus 0, " + i, m.word(i), due[i]);
        }
    }

    private static void fieldsOfW() {
        Check.sentence("W: an expression, perhaps \"(\", an expression, a field as 8 L + R, and \")\" (else 5)");
        Check.same("the word of the bytes 1 to 5", 17314053 * 2, Check.bytes(1, 1, 2, 3, 4, 5));
        for (int f = -2; f <= 70; f++) {
            boolean isField = f >= 0 && f / 8 <= f % 8 && f % 8 <= 5;
            if (isField) {
                int l = f / 8;
                int r = f % 8;
                int[] five = new int[5];
                int[] from = {1, 2, 3, 4, 5};
                for (int at = r; at >= Math.max(1, l); at--) {
                    five[at - 1] = from[4 - (r - at)];
                }
                Check.same("field " + f, Check.assembled(" CON -17314053(" + f + ")", " END 0").word(0), Check.bytes(l == 0 ? -1 : 1, five[0], five[1], five[2], five[3], five[4]));
            } else {
                wrongCon("1(" + f + ")");
                Check.wrongIn(1, "A EQU 1(" + f + ")", " END 0");
                Check.wrongIn(1, " ORIG 1(" + f + ")", " END 0");
                Check.wrongIn(1, " END 1(" + f + ")");
                Check.wrongIn(1, " LDA =1(" + f + ")=", " END 0");
            }
        }
        Check.same("the whole without", Check.assembled(" CON -17314053", " END 0").word(0), Check.bytes(-1, 1, 2, 3, 4, 5));
        for (String part : new String[] {"1(", "1()", "1(5", "1(5))", "1((5))", "1(5)(5)", "1)", "1(5)1", "1(A)", "1(1F)", "1(1000)", "1(4294967301)"}) {
            wrongCon(part);
        }
    }

    private static void wordsOfW() {
        Check.sentence("perhaps \",\" and a W: into a word of plus 0 each value is stored as ST does");
        Check.same("one by one", Check.assembled(" CON 1(1:1),2(2:2),3(3:3),4(4:4),5(5:5),-1(0:0)", " END 0").word(0), Check.bytes(-1, 1, 2, 3, 4, 5));
        Check.same("the later one", Check.assembled(" CON 1,2,-3,4", " END 0").word(0), 8);
        Check.same("its sign", Check.assembled(" CON 1,-2(1:5)", " END 0").word(0), 4);
        Check.same("the sign stays", Check.assembled(" CON -1,2(1:5)", " END 0").word(0), 5);
        Check.same("minus 0", Check.assembled(" CON 0,-1(0:0)", " END 0").word(0), 1);
        Check.same("plus 0 again", Check.assembled(" CON -1(0:0),0", " END 0").word(0), 0);
        Check.same("the lowest byte", Check.assembled(" CON 64(5:5)", " END 0").word(0), 0);
        Check.same("the lowest byte", Check.assembled(" CON 127(5:5)", " END 0").word(0), Check.word(63));
        Check.same("as many as there is room for", Check.assembled(" CON 1" + ",1".repeat(113), " END 0").word(0), 2);
        for (String part : new String[] {"1,", ",1", "1,,1", "1,(5)", "1(5),", "1,A", "1;1"}) {
            wrongCon(part);
        }
    }

    private static void placeAtFirst() {
        Check.sentence("The place at hand is 0 at first.");
        MixMachine m = new MixMachine();
        for (int i = 0; i < 3; i++) {
            Check.type(m, "A CON 7\n ORIG 100\n END A");
            Check.same("start", m.assemble(), 0);
            Check.same("word", m.word(0), 14);
        }
        Check.type(m, " ORIG 50\n FOO");
        Check.refuses("FOO", Check.ARGUMENT, () -> m.assemble());
        Check.type(m, " END *");
        Check.same("at first again", m.assemble(), 0);
    }

    private static void placeGrows() {
        Check.sentence("ORIG: the place becomes the value, CON: its word stands at the place, an instruction likewise, and the place grows by 1");
        MixMachine m = Check.assembled(" CON 7", " NOP 8", " ORIG *+3", " CON *", " ORIG *-1", " CON 9", " ORIG 0", " CON 1(1:1)", " END *");
        Check.same("the later one stands", m.word(0), Check.bytes(1, 1, 0, 0, 0, 0));
        Check.same("an instruction", m.word(1), Check.code(8, 0, 0, 0));
        Check.same("none", m.word(2), 0);
        Check.same("over the one before", m.word(5), Check.word(9));
        Check.same("the place at END", m.state(0), 1);
        Check.same("ORIG of minus 0", Check.assembled(" ORIG -1(0)", "A CON 5", " END A").word(0), 10);
        for (String value : new String[] {"32767*32769", "-32767*32769", "200", "-1", "0", "199"}) {
            MixMachine far = Check.assembled(" ORIG " + value, "A EQU *", "B ORIG 0", " END 0");
            Check.same("EQU *", far.symbol('A'), far.symbol('B'));
            Check.same("ORIG " + value, far.symbol('A'), Check.assembled("A EQU " + value, " END 0").symbol('A'));
        }
    }

    private static void equLabels() {
        Check.sentence("EQU gives its label, which there must be (a digit and H, too), the value.");
        Check.wrongIn(1, " EQU 5", " END 0");
        Check.right("A EQU 5", "1H EQU 5", " END 0");
        Check.wrongIn(1, "1B EQU 5", " END 0");
        Check.wrongIn(1, "1F EQU 5", " END 0");
        MixMachine m = Check.assembled(" LDA 1F", "1H EQU -9", " CON 1B", " CON *", " END 0");
        Check.same("F", m.word(0), Check.minusCode(9, 0, 5, 8));
        Check.same("B", m.word(1), Check.word(-9));
        Check.same("nothing stands by it", m.word(2), Check.word(2));
    }

    private static void equValues() {
        Check.sentence("EQU gives its label, which there must be (a digit and H, too), the value.", "each value");
        String[] values = {"0", "-1(0)", "4095", "4096", "-4096", "32767*32769", "-32767*32769"};
        int[] due = {0, 1, 8190, 8192, 8193, 2 * ALL, 2 * ALL + 1};
        for (int i = 0; i < values.length; i++) {
            Check.same("EQU " + values[i], Check.assembled("A EQU " + values[i], " END 0").symbol('A'), due[i]);
        }
        Check.wrongIn(1, "A EQU A", " END 0");
        Check.wrongIn(1, "A EQU A+1", " END 0");
        Check.wrongIn(1, "1H EQU 1B", " END 0");
    }

    private static void labelIsThePlaceBefore() {
        Check.sentence("a label of these three is the place before");
        MixMachine m = Check.assembled(" ORIG 7", "A ORIG 20", "B CON 5", "C NOP", "D EQU *", "1H ORIG 30", " CON 1B", "1H CON 5", " CON 1B", "1H NOP", " CON 1B", " END 0");
        Check.same("ORIG", m.symbol('A'), Check.word(7));
        Check.same("CON", m.symbol('B'), Check.word(20));
        Check.same("an instruction", m.symbol('C'), Check.word(21));
        Check.same("behind", m.symbol('D'), Check.word(22));
        Check.same("an H of ORIG", m.word(30), Check.word(22));
        Check.same("an H of CON", m.word(32), Check.word(31));
        Check.same("an H of an instruction", m.word(34), Check.word(33));
        m = Check.assembled(" ORIG -7", "A ORIG 5000", "B ORIG 199", "C NOP", "D ORIG 0", " END 0");
        Check.same("below 0", m.symbol('A'), Check.word(-7));
        Check.same("far above", m.symbol('B'), Check.word(5000));
        Check.same("the last place", m.symbol('C'), Check.word(199));
        Check.same("200", m.symbol('D'), Check.word(200));
    }

    private static void ownLine() {
        Check.sentence("(a symbol has it in its own line already; B and F do not mean an H of their own line)");
        MixMachine m = Check.assembled(" ORIG 5", "A CON A", "B LDA B,A-5(B)", "C ORIG C+1", "D LDA =D=", " END 0");
        Check.same("CON", m.word(5), Check.word(5));
        Check.same("an instruction", m.word(6), Check.code(6, 0, 6, 8));
        Check.same("ORIG", m.symbol('D'), Check.word(8));
        Check.same("a literal", m.word(9), Check.word(8));
        m = Check.assembled("1H JMP 1F", "1H JMP 1B", "1H JMP 1F", "1H NOP", " END 0");
        Check.same("F is the next one", m.word(0), Check.code(1, 0, 0, 39));
        Check.same("B is the one above", m.word(1), Check.code(0, 0, 0, 39));
        Check.same("F is not the own one", m.word(2), Check.code(3, 0, 0, 39));
        for (String line : new String[] {"1H JMP 1B", "1H CON 1B", "1H ORIG 1B", "1H EQU 1B", "1H LDA =1B=", "1H LDA 5,1B", "1H LDA 5(1B)"}) {
            Check.wrongIn(1, line, "1H NOP", " END 0");
        }
        Check.wrongIn(2, "1H JMP 1F", " END 0");
        Check.wrongIn(1, " ORIG A", "A NOP", " END 0");
    }

    private static void placesWhereSomethingStands() {
        Check.sentence("Places, when something stands there, and the start are 0 .. 199.");
        for (String line : new String[] {" CON 5", " NOP", "A CON 5", "A NOP", "1H CON 5", "1H NOP", " LDA =5=", " LDA A"}) {
            for (int place : new int[] {-5000, -200, -2, -1, 200, 201, 256, 4095, 5000, 999999999}) {
                Check.wrongIn(2, " ORIG " + place, line, " ORIG 0", " END 0");
            }
            for (int place : new int[] {0, 1, 198, 199}) {
                MixMachine m = Check.assembled(" ORIG " + place, line, " ORIG 100", " END 0");
                Check.same(line + " at " + place, m.line(), MixMachine.NONE);
            }
            Check.wrongIn(3, " ORIG 199", " NOP", line, " ORIG 0", " END 0");
        }
        for (int place : new int[] {-5000, -1, 200, 5000, 999999999}) {
            Check.right(" ORIG " + place, " END 0");
            Check.right(" ORIG " + place, "A EQU 5", "B ORIG 7", " END 0");
        }
        MixMachine all = new MixMachine();
        Check.type(all, " ORIG 199\n CON 9\n ORIG 0\n CON 8\n END 0");
        all.assemble();
        Check.same("the last place", all.word(199), 18);
        Check.same("the first place", all.word(0), 16);
    }

    private static void starts() {
        Check.sentence("the program's START is its value");
        Check.same("a symbol", Check.assembled("A EQU 150", " END A+1").state(0), 151);
        Check.same("a B", Check.assembled(" NOP", "1H NOP", " END 1B").state(0), 1);
        Check.same("the place at hand", Check.assembled(" NOP", " NOP", " END *").state(0), 2);
        Check.wrongIn(2, " ORIG 200", " END *");
        Check.sentence("and the start are 0 .. 199.");
        for (int start = -3; start <= 210; start++) {
            if (start >= 0 && start < 200) {
                Check.same("start " + start, Check.assembled(" END " + start).state(0), start);
            } else {
                Check.wrongIn(1, " END " + start);
            }
        }
        for (String start : new String[] {"4096", "-4096", "32767*32769", "999999999", "-999999999", "1(1:1)", "-1"}) {
            Check.wrongIn(2, "", " END " + start);
        }
        Check.same("minus 0", Check.assembled(" END -1(0)").state(0), 0);
        Check.same("a place where nothing stands", Check.assembled(" CON 5", " END 199").state(0), 199);
        Check.same("assemble answers it", assembleOf(" END 199"), 199);
    }

    private static int assembleOf(String text) {
        MixMachine m = new MixMachine();
        Check.type(m, text);
        return m.assemble();
    }

    private static void endHasNoLabel() {
        Check.sentence("END has no label");
        for (String label : new String[] {"A", "1H", "ABCDEF", "END"}) {
            Check.wrongIn(2, "", label + " END 0");
        }
        Check.right(" END 0");
        Check.sentence("a label of these three is the place before", "END is none of them, so nothing is filled in by its label");
        for (int place : new int[] {4095, 4096, -4096}) {
            Check.wrongIn(3, " LDA A", " ORIG " + place, "A END 0");
            Check.wrongIn(3, " LDA 1F", " ORIG " + place, "1H END 0");
        }
    }

    private static void nothingBehindEnd() {
        Check.sentence("Behind it nothing is read.");
        for (String line : new String[] {"FOO", " FOO", " CON 5", "A EQU 1", " END 5", " END", "1H NOP", " ORIG 500", "\n\n\n"}) {
            MixMachine m = Check.assembled("A EQU 3", " END A", line, " END 200", line);
            Check.same("start", m.state(0), 3);
            Check.same("word", m.word(0), 0);
        }
        Check.wrongIn(2, " JMP 1F", " END 0", "1H NOP");
        MixMachine m = Check.assembled(" JMP A", " END 0", "A EQU 50");
        Check.same("a symbol that comes behind it", m.word(0), Check.code(1, 0, 0, 39));
    }

    private static void symbolsAtEnd() {
        Check.sentence("then each symbol without a value gets the place, in the order in which they came (what waits for it is filled in first), and plus 0 stands there");
        MixMachine m = new MixMachine();
        for (int i = 0; i < 12; i++) {
            m.poke(i, 99);
        }
        Check.type(m, Check.lines(" LDA Z", " LDA B", " LDA A", " LDA B", " LDA Z", "A EQU 70", " LDA C", " END 0"));
        m.assemble();
        int[] addresses = {6, 7, 70, 7, 6, 8};
        for (int i = 0; i < addresses.length; i++) {
            Check.same("address " + i, m.word(i), Check.code(addresses[i], 0, 5, 8));
        }
        int[] words = {0, 0, 0, 99};
        for (int i = 0; i < words.length; i++) {
            Check.same("word " + (6 + i), m.word(6 + i), words[i]);
        }
        Check.same("Z", m.symbol('Z'), Check.word(6));
        Check.same("B", m.symbol('B'), Check.word(7));
        Check.same("C", m.symbol('C'), Check.word(8));
        Check.same("the start is before them", Check.assembled(" LDA A", " END *").state(0), 1);
    }

    private static void literalsAtEnd() {
        Check.sentence("then each literal (two that are alike, too) likewise, in their order, with its word");
        MixMachine m = Check.assembled(" LDA =7=", " LDA A", " LDA =-1(0)=", " LDA =7=", " LDA B", " ORIG 190", " END 0");
        int[] addresses = {192, 190, 193, 194, 191};
        for (int i = 0; i < addresses.length; i++) {
            Check.same("address " + i, m.word(i), Check.code(addresses[i], 0, 5, 8));
        }
        int[] words = {0, 0, 14, 1, 14, 0};
        for (int i = 0; i < words.length; i++) {
            Check.same("word " + (190 + i), m.word(190 + i), words[i]);
        }
    }

    private static void noPlaceAtEnd() {
        Check.sentence("or no place for one at END, is wrong in the line where it comes", "END's line");
        Check.right(" LDA A", " ORIG 199", " END 0");
        Check.right(" LDA =5=", " ORIG 199", " END 0");
        Check.right(" LDA A", " LDA =5=", " ORIG 198", " END 0");
        Check.right(" LDA A", " LDA B", " ORIG 198", " END 0");
        Check.right(" LDA =5=", " LDA =5=", " ORIG 198", " END 0");
        for (int place : new int[] {-5, -1, 200, 201, 4095}) {
            Check.wrongIn(3, " LDA A", " ORIG " + place, " END 0", " NOP");
            Check.wrongIn(3, " LDA =5=", " ORIG " + place, " END 0", " NOP");
        }
        Check.wrongIn(4, " LDA A", " LDA =5=", " ORIG 199", " END 0");
        Check.wrongIn(4, " LDA A", " LDA B", " ORIG 199", " END 0");
        Check.wrongIn(4, " LDA =5=", " LDA =5=", " ORIG 199", " END 0");
        Check.right(" LDA 0", " ORIG 200", " END 0");
        MixMachine m = Check.assembled(" LDA A", " LDA =5=", " ORIG 198", " END 0");
        Check.same("the last places", m.word(199), 10);
        Check.same("the last places", m.symbol('A'), Check.word(198));
    }

    private static void filledInFirst() {
        Check.sentence("(what waits for it is filled in first)");
        MixMachine m = Check.assembled(" ORIG 5", " LDA A", " ORIG 5", " END 0");
        Check.same("plus 0 stands over it", m.word(5), 0);
        m = Check.assembled(" ORIG 5", " LDA =7=", " ORIG 5", " END 0");
        Check.same("the literal stands over it", m.word(5), 14);
        m = Check.assembled(" ORIG 5", " LDA A", " LDA =7=", " ORIG 5", " END 0");
        Check.same("plus 0, then the literal", m.word(5), 0);
        Check.same("plus 0, then the literal", m.word(6), 14);
        Check.sentence("below 4096, else the line by which it came is wrong");
        Check.wrongIn(1, " LDA A", " ORIG 4096", " END 0");
        Check.wrongIn(3, " LDA A", " ORIG 4095", " END 0");
        Check.wrongIn(2, "", " LDA =5=", " ORIG -4096", " END 0");
    }
}
