/** Promises 4 and 5: what an assembling changes, and which line is wrong. */
public final class AssembleTest {
    public static void main(String[] args) {
        comesIntoMemory();
        goesAtTheStart();
        restStays();
        wrongChangesLineAlone();
        textStays();
        linesAreRead();
        labels();
        withoutEnd();
        end();
        longestText();
        beginsAnew();
        nothingBehindTheText();
        Check.end();
    }

    private static void comesIntoMemory() {
        MixMachine m = new MixMachine();
        m.poke(0, 11);
        m.poke(5, 13);
        Check.type(m, Check.lines(" ORIG 4", " CON 7", " ORIG 6", " CON -8", " END 4"));
        Check.same("start", m.assemble(), 4);
        Check.same("line", m.line(), MixMachine.NONE);
        Check.same("word 4", m.word(4), 14);
        Check.same("word 6", m.word(6), 17);
        Check.same("other places stay", m.word(5), 13);
        Check.same("place 0 stays", m.word(0), 11);
    }

    private static void goesAtTheStart() {
        MixMachine m = Check.assembled(" ORIG 9", " HLT", " END 9");
        Check.same("place", m.state(0), 9);
        Check.same("goes", m.state(4), 0);
        m.step(1);
        Check.same("stopped", m.state(4), 1);
        m.assemble();
        Check.same("place again", m.state(0), 9);
        Check.same("goes again", m.state(4), 0);
    }

    private static void restStays() {
        MixMachine m = Check.assembled(" ENTA 5", " ENT3 7", " OUT 0(18)", " OUT 0(0)", " JMP *+1", " HLT", " END 0");
        m.step(6);
        m.assemble();
        Check.same("A", m.register(0), 10);
        Check.same("I3", m.register(3), 14);
        Check.same("J", m.register(8), 10);
        Check.same("time", m.state(1), 6);
        Check.same("printed", m.state(5), 1);
        Check.same("tape", m.state(6), 1);
        m.go(2);
        m.step(1);
        Check.same("the printer is still busy", m.state(7), 1);
    }

    private static void wrongChangesLineAlone() {
        MixMachine m = Check.assembled("A EQU 3", " CON 7", " HLT", " END 1");
        m.step(1);
        Check.type(m, Check.lines("B EQU 4", " CON 9", " FOO", " END 0"));
        Check.refuses("FOO", Check.ARGUMENT, () -> m.assemble());
        Check.same("line", m.line(), 3);
        Check.same("memory stays", m.word(0), 14);
        Check.same("place stays", m.state(0), 2);
        Check.same("stopped stays", m.state(4), 1);
        Check.same("symbol stays", m.symbol('A'), 6);
        Check.refuses("no new symbol", Check.ELEMENT, () -> m.symbol('B'));
        Check.type(m, " END 0");
        m.assemble();
        Check.same("line of a right one", m.line(), MixMachine.NONE);
        Check.refuses("the symbols of the latest alone", Check.ELEMENT, () -> m.symbol('A'));
    }

    private static void textStays() {
        MixMachine m = Check.assembled(" END 0");
        Check.same("text", m.erase(), 6);
    }

    private static void linesAreRead() {
        Check.right("*ANYTHING", "* FOO", "", "    ", " NOP", " NOP ", " NOP  5 anything (", "A   NOP", " END 0 x", "FOO FOO FOO");
        Check.wrongIn(1, " FOO", " END 0");
        Check.wrongIn(1, "A", " END 0");
        Check.wrongIn(1, "A  ", " END 0");
        Check.wrongIn(1, "NOP", " END 0");
        Check.wrongIn(2, "", " nop", " END 0");
        Check.wrongIn(1, " *", " END 0");
        Check.wrongIn(1, " NOP anything", " END 0");
        Check.wrongIn(2, " NOP * 5,", " NOPE", " END 0");
        Check.wrongIn(1, " NOP,1", " END 0");
        Check.wrongIn(1, " NOPXXXX", " END 0");
        Check.wrongIn(1, " XOP", " END 0");
        Check.wrongIn(1, " NO", " END 0");
        Check.wrongIn(1, " LD", " END 0");
    }

    private static void labels() {
        Check.right("A NOP", "ABCDEF NOP", "123A45 NOP", "H1 NOP", "12H NOP", "1HH NOP", "1A NOP", "H NOP", "AH NOP", "AB NOP", "AF NOP", "0H NOP", "9H NOP", "9H NOP", " END 0");
        Check.wrongIn(1, "ABCDEFG NOP", " END 0");
        Check.wrongIn(1, "123 NOP", " END 0");
        Check.wrongIn(1, "1B NOP", " END 0");
        Check.wrongIn(1, "1F NOP", " END 0");
        Check.wrongIn(1, "a NOP", " END 0");
        Check.wrongIn(1, "A+ NOP", " END 0");
        Check.wrongIn(2, "A NOP", "A NOP", " END 0");
        Check.wrongIn(2, "A EQU 1", "A EQU 1", " END 0");
        Check.right(" JMP A", "A NOP", " END 0");
        Check.right(" JMP A", "A EQU 4095", " END 0");
        Check.wrongIn(1, "X END 0");
        Check.wrongIn(1, "1H END 0");
        Check.wrongIn(1, " EQU 5", " END 0");
    }

    private static void withoutEnd() {
        Check.wrongIn(2, "");
        Check.wrongIn(2, " NOP");
        Check.wrongIn(3, " NOP", "");
        Check.wrongIn(4, "", "", "");
        Check.wrongIn(3, " NOP", "* END 0");
        Check.wrongIn(1, "END 0");
    }

    private static void end() {
        Check.same("start 199", Check.assembled(" END 199").state(0), 199);
        Check.same("start *", Check.assembled(" NOP", " NOP", " END *").state(0), 2);
        Check.wrongIn(1, " END 200");
        Check.wrongIn(1, " END -1");
        Check.wrongIn(1, " END");
        Check.wrongIn(1, " END A");
        Check.wrongIn(2, " ORIG 200", "A NOP", " END 0");
        Check.wrongIn(2, " ORIG -1", " CON 0", " END 0");
        Check.right(" ORIG 199", " NOP", " ORIG 5000", " END 0");
        Check.right(" ORIG -7", "A ORIG 7", " END 0");
    }

    private static void longestText() {
        Check.wrongIn(242, "\n".repeat(240));
        Check.right("\n".repeat(234) + " END 0");
        Check.right(" END 0" + " ".repeat(234));
        Check.right(" END " + "0+".repeat(117) + "0");
        Check.wrongIn(1, " END 0" + "+0".repeat(116) + "+");
        Check.wrongIn(1, "A" + " ".repeat(239));
        Check.wrongIn(1, "A".repeat(240));
    }

    private static void beginsAnew() {
        MixMachine m = new MixMachine();
        String text = Check.lines(" LDA =5=", " JMP A", " JMP 1F", "1H NOP", " END 0");
        Check.type(m, Check.lines(" JMP 1F", " LDA =7=", "2H JMP B", " ORIG 100", " FOO", " END 0"));
        Check.refuses("FOO", Check.ARGUMENT, () -> m.assemble());
        for (int i = 0; i < 30; i++) {
            Check.type(m, text);
            Check.same("start", m.assemble(), 0);
            int[] due = {Check.code(5, 0, 5, 8), Check.code(4, 0, 0, 39), Check.code(3, 0, 0, 39), 0, 0, 10, 0};
            for (int place = 0; place < due.length; place++) {
                Check.same("word " + place, m.word(place), due[place]);
            }
            Check.refuses("B is gone", Check.ELEMENT, () -> m.symbol('B'));
            Check.same("A", m.symbol('A'), Check.word(4));
        }
        Check.type(m, Check.lines(" JMP 2B", " END 0"));
        Check.refuses("a B of an assembling before", Check.ARGUMENT, () -> m.assemble());
    }

    /** What an erased text had there does not count. */
    private static void nothingBehindTheText() {
        String[] behind = {"7", "+1", "*5", "(5)", ",1", "x", " 5", "\nA", "B"};
        for (String old : behind) {
            MixMachine m = new MixMachine();
            Check.type(m, " END 1" + old);
            Check.type(m, " END 1");
            Check.same("start", m.assemble(), 1);
        }
        MixMachine m = new MixMachine();
        Check.type(m, " END 0");
        Check.type(m, " ");
        Check.refuses("no END", Check.ARGUMENT, () -> m.assemble());
        Check.same("line", m.line(), 2);
    }
}
