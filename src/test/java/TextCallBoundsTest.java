/** Promises 2 to 6 at their bounds: write, erase, assemble, line and symbol, sentence by sentence. */
public final class TextCallBoundsTest {
    private static final String FULL = "*".repeat(240);

    public static void main(String[] args) {
        lowestBytes();
        numberOfCharacters();
        noCharacters();
        moreThan240();
        argumentBeforeState();
        refusedWrites();
        erasing();
        assemblingKeeps();
        refusedAssembling();
        textStays();
        lineIsNone();
        lineFromOne();
        lineIsOfTheLatest();
        symbolNames();
        symbolsOfTheLatestRight();
        symbolValues();
        Check.end();
    }

    private static void lowestBytes() {
        Check.sentence("The n lowest bytes of eight come as characters behind the text, the lowest first: how many it has.");
        String text = " END 198";
        for (int n = 1; n <= 8; n++) {
            MixMachine m = new MixMachine();
            Check.same("first " + n, m.write(-1L << 8 * n - 1 << 1 | Check.pack(text.substring(0, n)), n), n);
            if (n < 8) {
                Check.same("the others", m.write(Check.pack(text.substring(n)), 8 - n), 8);
            }
            Check.same("start, written " + n + " first", m.assemble(), 198);
        }
        MixMachine m = new MixMachine();
        m.write(Check.pack(" END "), 5);
        m.write(Check.pack("1991"), 1);
        Check.same("what is above n is no text", m.assemble(), 1);
    }

    private static void numberOfCharacters() {
        Check.sentence("IllegalArgumentException, when n is not 1 .. 8");
        long eight = Check.pack("AAAAAAAA");
        for (int n = -9; n <= 20; n++) {
            int count = n;
            MixMachine m = new MixMachine();
            if (n >= 1 && n <= 8) {
                Check.same("write of " + n, m.write(eight, n), n);
            } else {
                Check.refuses("write of " + n, Check.ARGUMENT, () -> m.write(eight, count));
                Check.same("all stays", m.erase(), 0);
            }
        }
        for (int n : new int[] {Integer.MIN_VALUE, Integer.MAX_VALUE, 256 + 1, 65536 + 8}) {
            Check.refuses("write of " + n, Check.ARGUMENT, () -> new MixMachine().write(eight, n));
        }
    }

    private static void noCharacters() {
        Check.sentence("or one of them is no character");
        for (int c = 0; c < 256; c++) {
            boolean isCharacter = c >= 32 && c <= 126 || c == 10;
            for (int at = 0; at < 8; at++) {
                long eight = Check.pack("AAAAAAAA") & ~(255L << 8 * at) | (long) c << 8 * at;
                for (int n = Math.max(1, at); n <= 8; n++) {
                    MixMachine m = new MixMachine();
                    int count = n;
                    if (isCharacter || at >= n) {
                        Check.same("character " + c + " at " + at + " of " + n, m.write(eight, n), n);
                    } else {
                        Check.refuses("character " + c + " at " + at + " of " + n, Check.ARGUMENT, () -> m.write(eight, count));
                        Check.same("none of them came", m.erase(), 0);
                    }
                }
            }
        }
    }

    private static void moreThan240() {
        Check.sentence("IllegalStateException, when there would be more than 240.");
        for (int had = 225; had <= 240; had++) {
            for (int n = 1; n <= 8; n++) {
                MixMachine m = new MixMachine();
                Check.type(m, FULL.substring(0, had));
                int count = n;
                if (had + n <= 240) {
                    Check.same(n + " behind " + had, m.write(Check.pack("********"), n), had + n);
                } else {
                    Check.refuses(n + " behind " + had, Check.STATE, () -> m.write(Check.pack("********"), count));
                    Check.same("all stays", m.erase(), had);
                }
            }
        }
    }

    private static void argumentBeforeState() {
        Check.sentence("Of several exceptions of a call the one that is listed first is thrown.", "write");
        MixMachine m = new MixMachine();
        Check.type(m, FULL);
        Check.refuses("n 0", Check.ARGUMENT, () -> m.write(Check.pack("AAAAAAAA"), 0));
        Check.refuses("n 9", Check.ARGUMENT, () -> m.write(Check.pack("AAAAAAAA"), 9));
        Check.refuses("no character", Check.ARGUMENT, () -> m.write(31, 1));
        Check.refuses("no character, the last of eight", Check.ARGUMENT, () -> m.write(Check.pack("AAAAAAA"), 8));
        Check.refuses("both are as they should be", Check.STATE, () -> m.write('A', 1));
    }

    private static void refusedWrites() {
        Check.sentence("Nothing is promised beyond the answers and state changes described above", "a write that is refused");
        Check.changesNothing("n 0", m -> { }, Check.ARGUMENT, m -> m.write('A', 0));
        Check.changesNothing("no character", m -> { }, Check.ARGUMENT, m -> m.write('A' | 127 << 8, 2));
        Check.changesNothing("full", m -> Check.type(m, " END 5" + " ".repeat(234)), Check.STATE, m -> m.write('A', 1));
    }

    private static void erasing() {
        Check.sentence("The text is gone: how many characters it had.");
        for (int had : new int[] {0, 1, 8, 239, 240}) {
            MixMachine m = new MixMachine();
            Check.type(m, FULL.substring(0, had));
            Check.same("erase of " + had, m.erase(), had);
            Check.same("erase again", m.erase(), 0);
            Check.refuses("an empty text", Check.ARGUMENT, () -> m.assemble());
            Check.same("which is wrong in line 2", m.line(), 2);
            Check.type(m, FULL);
            Check.same("240 have room again", m.erase(), 240);
        }
        MixMachine erased = Check.used();
        erased.erase();
        Check.same("line stays", erased.line(), MixMachine.NONE);
        Check.same("symbols stay", erased.symbol('B'), Check.word(-7));
        Check.type(erased, Check.lines(" ORIG 150", " FOO", " END 150"));
        Check.refuses("FOO", Check.ARGUMENT, () -> erased.assemble());
        erased.erase();
        Check.same("line of a wrong one stays", erased.line(), 2);
    }

    private static void assemblingKeeps() {
        Check.sentence("its words come into memory (other places stay), the machine is at the start and goes (registers, time, units stay)");
        MixMachine m = Check.used();
        MixMachine twin = Check.used();
        String text = Check.lines("A EQU 163", "B EQU -7", " ORIG 7", " CON 8", " ORIG 199", " CON -9", " END 6");
        Check.type(m, text);
        Check.type(twin, text);
        Check.same("start", m.assemble(), 6);
        twin.poke(7, 16);
        twin.poke(199, 19);
        twin.go(6);
        Check.looksLike("assemble", m, twin);
        for (int how = 0; how < 3; how++) {
            MixMachine stopped = new MixMachine();
            stopped.poke(0, how == 1 ? Check.code(0, 0, 2, 5) : Check.code(4000, 0, 0, 39));
            if (how > 0) {
                stopped.go(0);
                stopped.step(1);
            }
            Check.same("stopped", stopped.state(4), how == 2 ? 2 : 1);
            Check.type(stopped, " END 3");
            stopped.assemble();
            Check.same("goes", stopped.state(4), 0);
            Check.same("at the start", stopped.state(0), 3);
        }
    }

    private static void refusedAssembling() {
        Check.sentence("IllegalArgumentException, when it is wrong, or there are too many symbols, literals or that wait; nothing changes but line().");
        String[] texts = {"", " FOO", "C EQU 5\n CON 5\n END 200", "C CON 1\nC CON 1\n END 0", " CON 1\n ORIG 199\n JMP C\n END 0",
            " ORIG 199\n CON 1\n CON 1\n END 0", " CON 1\n JMP 1F\n END 0", " JL =0=\n".repeat(21) + " END 0", " LDA C\nC EQU 4096\n END 0"};
        int[] lines = {2, 1, 3, 2, 4, 3, 3, 21, 1};
        for (int i = 0; i < texts.length; i++) {
            MixMachine left = Check.used();
            MixMachine called = Check.used();
            Check.type(left, texts[i]);
            Check.type(called, texts[i]);
            Check.refuses("text " + i, Check.ARGUMENT, () -> called.assemble());
            Check.same("text " + i + ": line", called.line(), lines[i]);
            Check.same("text " + i + ": it goes still", called.state(4), 0);
            Check.looksLike("text " + i, called, left);
        }
        MixMachine stopped = Check.assembled(" HLT", " END 0");
        stopped.step(1);
        Check.type(stopped, " CON 5");
        Check.refuses("no END", Check.ARGUMENT, () -> stopped.assemble());
        Check.same("it has stopped still", stopped.state(4), 1);
        MixMachine stuck = Check.assembled(" JMP 200", " END 0");
        stuck.step(1);
        Check.type(stuck, " CON 5");
        Check.refuses("no END", Check.ARGUMENT, () -> stuck.assemble());
        Check.same("it is stuck still", stuck.state(4), 2);
    }

    private static void textStays() {
        Check.sentence("Assembles the text (which stays)");
        MixMachine m = Check.assembled(" END 1");
        Check.same("behind a right one", m.write('9', 1), 7);
        Check.same("with what came behind", m.assemble(), 19);
        m.write('9', 1);
        Check.same("once more", m.assemble(), 199);
        m.write('9', 1);
        Check.refuses("1999", Check.ARGUMENT, () -> m.assemble());
        Check.same("behind a wrong one", m.erase(), 9);
    }

    private static void lineIsNone() {
        Check.sentence("NONE when it was right, or there was none.");
        MixMachine m = new MixMachine();
        Check.same("there was none", m.line(), -1);
        Check.type(m, "FOO");
        Check.same("a text alone is none", m.line(), -1);
        Check.refuses("FOO", Check.ARGUMENT, () -> m.assemble());
        Check.same("a wrong one", m.line(), 1);
        Check.type(m, " END 0");
        Check.same("until the next one", m.line(), 1);
        m.assemble();
        Check.same("it was right", m.line(), -1);
    }

    private static void lineFromOne() {
        Check.sentence("The number, from 1, of the line that was wrong");
        for (int line = 1; line <= 200; line++) {
            Check.wrongIn(line, "\n".repeat(line - 1) + "FOO\n END 0");
        }
        Check.wrongIn(3, " NOP", "* FOO", " FOO", " FOO", " END 0");
        Check.wrongIn(240, "\n".repeat(239) + "A");
    }

    private static void lineIsOfTheLatest() {
        Check.sentence("in the latest assembling");
        MixMachine m = new MixMachine();
        int[] lines = {5, 1, 3};
        for (int line : lines) {
            Check.type(m, "\n".repeat(line - 1) + "FOO");
            Check.refuses("FOO", Check.ARGUMENT, () -> m.assemble());
            Check.same("line", m.line(), line);
        }
    }

    private static void symbolNames() {
        Check.sentence("its characters in the lowest bytes of name, the first one the lowest, 0 behind the last one (all eight bytes count)");
        MixMachine m = Check.assembled("A EQU 1", "AB EQU 2", "ABC EQU 3", "ABCD EQU 4", "ABCDE EQU 5", "ABCDEF EQU 6", "0Z EQU 7", "9A9Z99 EQU 8", " END 0");
        for (int n = 1; n <= 6; n++) {
            long name = Check.pack("ABCDEF".substring(0, n));
            Check.same(n + " characters", m.symbol(name), 2 * n);
            for (int at = n; at < 8; at++) {
                long other = name | 1L << 8 * at;
                long top = name | 128L << 8 * at;
                Check.refuses("byte " + at + " is not 0", Check.ELEMENT, () -> m.symbol(other));
                Check.refuses("byte " + at + " is not 0", Check.ELEMENT, () -> m.symbol(top));
            }
        }
        Check.same("0Z", m.symbol(Check.pack("0Z")), 14);
        Check.same("9A9Z99", m.symbol(Check.pack("9A9Z99")), 16);
        Check.sentence("NoSuchElementException, when there is none.");
        for (String name : new String[] {"", "B", "BA", "a", "A ", " A", "\0A", "Z", "0", "Z0", "ABCDEFG", "ABCDEFGH", "ABCDEG", "9A9Z9"}) {
            Check.refuses("symbol " + name, Check.ELEMENT, () -> m.symbol(Check.pack(name)));
        }
        Check.refuses("symbol -1", Check.ELEMENT, () -> m.symbol(-1));
        Check.refuses("an operation", Check.ELEMENT, () -> m.symbol(Check.pack("EQU")));
        Check.changesNothing("symbol", u -> { }, Check.ELEMENT, u -> u.symbol('C'));
    }

    private static void symbolsOfTheLatestRight() {
        Check.sentence("A symbol's value in the latest assembling that was right");
        MixMachine m = new MixMachine();
        Check.refuses("none was", Check.ELEMENT, () -> m.symbol('A'));
        Check.type(m, "A EQU 5\n FOO\n END 0");
        Check.refuses("wrong", Check.ARGUMENT, () -> m.assemble());
        Check.refuses("only a wrong one was", Check.ELEMENT, () -> m.symbol('A'));
        Check.type(m, "A EQU 6\nB EQU 7\n END 0");
        m.assemble();
        Check.same("A", m.symbol('A'), 12);
        Check.type(m, "A EQU 8\nC EQU 9\n END 200");
        Check.refuses("wrong at END", Check.ARGUMENT, () -> m.assemble());
        Check.same("A stays", m.symbol('A'), 12);
        Check.same("B stays", m.symbol('B'), 14);
        Check.refuses("C of a wrong one", Check.ELEMENT, () -> m.symbol('C'));
        Check.type(m, "C EQU 9\n END 0");
        m.assemble();
        Check.same("C", m.symbol('C'), 18);
        Check.refuses("A is of an older one", Check.ELEMENT, () -> m.symbol('A'));
    }

    private static void symbolValues() {
        Check.sentence("as a word");
        MixMachine m = Check.assembled("A EQU 32767*32769", "B EQU -32767*32769", "C EQU 0", "D EQU -1(0)", "E EQU -0", " ORIG 199", "F NOP", "G ORIG 0", " LDA H", " END 0");
        Check.same("the greatest", m.symbol('A'), 2147483646);
        Check.same("the smallest", m.symbol('B'), 2147483647);
        Check.same("plus 0", m.symbol('C'), 0);
        Check.same("minus 0", m.symbol('D'), 1);
        Check.same("0 of an expression is plus", m.symbol('E'), 0);
        Check.same("the last place", m.symbol('F'), 398);
        Check.same("the place behind it", m.symbol('G'), 400);
        Check.same("one that END placed", m.symbol('H'), 2);
    }
}
