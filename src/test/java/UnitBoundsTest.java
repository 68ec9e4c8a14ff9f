/** The units at their bounds: the tape's ends, cards, lines, being busy, waiting. */
public final class UnitBoundsTest {
    private static final int JBUS = 34;
    private static final int IOC = 35;
    private static final int IN = 36;
    private static final int OUT = 37;
    private static final int JRED = 38;
    /** Each unit, and in how many steps it is busy. */
    private static final int[][] UNITS = {{0, 4}, {16, 8}, {18, 6}};
    /** What units have, each with the unit's number behind it. */
    private static final int[][] WORKS = {{IOC, 0}, {IN, 0}, {OUT, 0}, {IN, 16}, {IOC, 18}, {OUT, 18}};

    public static void main(String[] args) {
        tapeAtFirst();
        wholeTape();
        behindTheLastBlock();
        tapeMoves();
        oneBlockEach();
        oldestCard();
        linesPrinted();
        controlOfThePrinter();
        controlOfTheReader();
        busySteps();
        busyForOneUnitAlone();
        stuckIsNotBusy();
        waitingSteps();
        waitingWhateverElse();
        waitingIsNoWork();
        timeOfWaiting();
        assembledWhileBusy();
        Check.end();
    }

    private static int busyStepsOf(int unit) {
        return unit == 0 ? 4 : unit == 16 ? 8 : 6;
    }

    /** A machine with six cards that goes at place 0, where the words are. */
    private static MixMachine at0(int... words) {
        MixMachine m = new MixMachine();
        for (int i = 0; i < words.length; i++) {
            m.poke(i, words[i]);
        }
        for (int i = 0; i < 6; i++) {
            m.card(10 * i + 1, 10 * i + 2, 10 * i + 3, 10 * i + 4);
        }
        m.go(0);
        return m;
    }

    /** Does one instruction and lets ten steps go by, so that no unit is busy. */
    private static void doThenRest(MixMachine m, int instruction) {
        m.poke(50, instruction);
        m.go(50);
        Check.same("the instruction and ten NOP", m.step(11), 11);
    }

    private static void tapeAtFirst() {
        Check.sentence("0 a tape of 6 blocks of 10 words, plus 0 at first, at block 0");
        MixMachine m = at0(Check.code(100, 0, 0, IN));
        for (int i = 0; i < 12; i++) {
            m.poke(99 + i, 7);
        }
        Check.same("block", m.state(6), 0);
        m.step(1);
        for (int i = 0; i < 10; i++) {
            Check.same("plus 0", m.word(100 + i), 0);
        }
        Check.same("the place before", m.word(99), 7);
        Check.same("the place behind", m.word(110), 7);
    }

    private static void wholeTape() {
        Check.sentence("on the tape it is the block where that is (stuck behind the last one), and it is at the next one then");
        MixMachine m = at0();
        for (int block = 0; block < 6; block++) {
            for (int i = 0; i < 10; i++) {
                m.poke(100 + i, 100 * block + i + 1);
            }
            Check.same("block", m.state(6), block);
            doThenRest(m, Check.code(100, 0, 0, OUT));
        }
        Check.same("behind the last one", m.state(6), 6);
        for (int i = 0; i < 60; i++) {
            Check.same("word " + i, m.tape(i / 10, i % 10), 100 * (i / 10) + i % 10 + 1);
        }
        doThenRest(m, Check.code(0, 0, 0, IOC));
        for (int block = 0; block < 6; block++) {
            doThenRest(m, Check.code(190, 0, 0, IN));
            Check.same("first word", m.word(190), 100 * block + 1);
            Check.same("last word", m.word(199), 100 * block + 10);
            Check.same("the next block", m.state(6), block + 1);
            Check.same("the tape stays", m.tape(block, 9), 100 * block + 10);
        }
    }

    private static void behindTheLastBlock() {
        Check.sentence("(stuck behind the last one)");
        for (int operation : new int[] {IN, OUT}) {
            for (int block = 0; block <= 6; block++) {
                MixMachine m = at0();
                doThenRest(m, Check.code(block, 0, 0, IOC));
                Check.same("block", m.state(6), block);
                m.poke(50, Check.code(100, 0, 0, operation));
                m.go(50);
                Check.same("operation " + operation + " at block " + block, m.step(1), block < 6 ? 1 : 0);
                Check.same("stuck", m.state(4), block < 6 ? 0 : 2);
                Check.same("block then", m.state(6), Math.min(6, block + 1));
            }
        }
    }

    private static void tapeMoves() {
        Check.sentence("IOC: 0: if M is 0, to block 0, else M blocks on, but not beyond 0 and 6");
        for (int from = 0; from <= 6; from++) {
            for (int by : new int[] {-4095, -7, -6, -5, -4, -3, -2, -1, 0, 1, 2, 3, 4, 5, 6, 7, 4095}) {
                MixMachine m = at0();
                doThenRest(m, Check.code(from, 0, 0, IOC));
                doThenRest(m, Check.codeAt(by, 0, 0, IOC));
                int due = by == 0 ? 0 : Math.min(6, Math.max(0, from + by));
                Check.same(by + " from " + from, m.state(6), due);
            }
            MixMachine m = at0();
            doThenRest(m, Check.code(from, 0, 0, IOC));
            doThenRest(m, Check.minusCode(0, 0, 0, IOC));
            Check.same("minus 0 from " + from, m.state(6), 0);
        }
        MixMachine index = Check.loaded(Check.minusCode(7, 1, 0, IOC), 0, 0, Check.word(9), 0);
        index.step(1);
        Check.same("by address and index", index.state(6), 2);
        MixMachine zero = Check.loaded(Check.code(3, 0, 0, IOC), 0, 0, Check.word(9), 0);
        zero.poke(1, Check.minusCode(9, 1, 0, IOC));
        zero.step(6);
        Check.same("0 by address and index", zero.state(6), 0);
    }

    private static void oneBlockEach() {
        Check.sentence("IN (0, 16), OUT (0, 18): a block comes to, from the places from M on");
        int[][] sizes = {{0, 10}, {16, 4}};
        for (int[] size : sizes) {
            MixMachine m = at0(Check.code(100, 0, size[0], IN));
            for (int i = 0; i < 12; i++) {
                m.poke(99 + i, 7);
            }
            m.step(1);
            Check.same("the place before", m.word(99), 7);
            for (int i = 0; i < 10; i++) {
                Check.same("word " + i + " of unit " + size[0], m.word(100 + i), i >= size[1] ? 7 : size[0] == 0 ? 0 : i + 1);
            }
        }
        MixMachine own = at0(Check.code(0, 0, 16, IN), 5, 5, 5, 5);
        own.step(1);
        Check.same("over the instruction itself", own.word(0), 1);
        Check.same("up to its last word", own.word(3), 4);
        Check.same("at the next place", own.state(0), 1);
    }

    private static void oldestCard() {
        Check.sentence("of cards the oldest (stuck without)");
        MixMachine m = at0();
        for (int i = 0; i < 6; i++) {
            doThenRest(m, Check.code(100, 0, 16, IN));
            for (int k = 0; k < 4; k++) {
                Check.same("card " + i + ", word " + k, m.word(100 + k), 10 * i + k + 1);
            }
        }
        m.poke(50, Check.code(100, 0, 16, IN));
        m.go(50);
        Check.same("no card is left", m.step(1), 0);
        Check.same("stuck", m.state(4), 2);
        Check.same("a card comes", m.card(5, 6, 7, 8), 1);
        m.go(50);
        Check.same("it is there now", m.step(1), 1);
        Check.same("its word", m.word(103), 8);
    }

    private static void linesPrinted() {
        Check.sentence("a line is PRINTED.");
        MixMachine m = at0();
        for (int n = 1; n <= 17; n++) {
            m.poke(194, 1000 + n);
            m.poke(199, 2000 + n);
            doThenRest(m, Check.code(194, 0, 18, OUT));
            Check.same("lines", m.state(5), n);
            Check.same("the first word of the latest", m.printed(0, 0), 1000 + n);
            Check.same("the last word of the latest", m.printed(0, 5), 2000 + n);
            Check.same("the oldest that is kept", m.printed(Math.min(n, 8) - 1, 5), 2000 + Math.max(1, n - 7));
        }
        MixMachine top = at0(Check.code(0, 0, 18, OUT));
        top.step(1);
        Check.same("from place 0", top.printed(0, 0), Check.code(0, 0, 18, OUT));
    }

    private static void controlOfThePrinter() {
        Check.sentence("18: nothing (but that it is busy then)");
        for (int by : new int[] {-4095, -1, 0, 1, 200, 4095}) {
            MixMachine m = at0(Check.codeAt(by, 0, 18, IOC), Check.code(1, 0, 18, JBUS));
            Check.same("IOC " + by, m.step(1), 1);
            Check.same("no line is printed", m.state(5), 0);
            Check.same("the tape stays", m.state(6), 0);
            Check.same("six steps", m.step(6), 6);
            Check.same("it is busy in all of them", m.state(0), 1);
            m.step(1);
            Check.same("but not in the next", m.state(0), 2);
        }
    }

    private static void controlOfTheReader() {
        Check.sentence("16 is stuck");
        for (int by : new int[] {-1, 0, 1}) {
            MixMachine m = at0(Check.codeAt(by, 0, 16, IOC), Check.code(99, 0, 16, JBUS));
            Check.same("IOC " + by, m.step(1), 0);
            Check.same("stuck", m.state(4), 2);
            m.go(1);
            m.step(1);
            Check.same("it is not busy", m.state(0), 2);
        }
    }

    private static void busySteps() {
        Check.sentence("A unit is BUSY in the 4 (0), 8 (16), 6 (18) steps behind one that did this");
        for (int[] work : WORKS) {
            int busy = busyStepsOf(work[1]);
            for (int between = 0; between <= 10; between++) {
                for (int jump : new int[] {JBUS, JRED}) {
                    MixMachine m = at0();
                    m.poke(20, Check.code(100, 0, work[1], work[0]));
                    m.poke(21 + between, Check.code(7, 0, work[1], jump));
                    m.go(20);
                    Check.same("steps", m.step(2 + between), 2 + between);
                    boolean isTaken = between < busy == (jump == JBUS);
                    Check.same("jump " + jump + " behind operation " + work[0] + " of " + work[1] + " and " + between + " more", m.state(0), isTaken ? 7 : 22 + between);
                    Check.same("J", m.register(8), isTaken ? Check.word(22 + between) : 0);
                    Check.same("none of them waits", m.state(7), 0);
                }
            }
        }
        for (int[] unit : UNITS) {
            MixMachine m = at0(Check.code(9, 0, unit[0], JBUS), Check.code(9, 0, unit[0], JRED));
            m.step(1);
            Check.same("unit " + unit[0] + " is not busy at first", m.state(0), 1);
            m.step(1);
            Check.same("so JRED goes", m.state(0), 9);
        }
    }

    private static void busyForOneUnitAlone() {
        Check.sentence("in these IOC, IN, OUT of it WAIT", "not of another unit");
        for (int[] first : WORKS) {
            for (int[] second : WORKS) {
                MixMachine m = at0(Check.code(100, 0, first[1], first[0]), Check.code(100, 0, second[1], second[0]));
                Check.same("both", m.step(2), 2);
                Check.same("waited", m.state(7), first[1] == second[1] ? 1 : 0);
                Check.same("place", m.state(0), first[1] == second[1] ? 1 : 2);
            }
        }
    }

    private static void stuckIsNotBusy() {
        Check.sentence("steps behind one that did this", "one that is stuck did not");
        int[] wrong = {Check.code(191, 0, 0, IN), Check.code(191, 0, 0, OUT), Check.code(197, 0, 16, IN), Check.code(195, 0, 18, OUT), Check.code(1, 0, 16, IOC),
            Check.code(1, 0, 16, OUT), Check.code(1, 0, 18, IN), Check.code(1, 7, 0, IOC), Check.code(1, 7, 18, IOC)};
        for (int w : wrong) {
            int unit = w >> 7 & 63;
            MixMachine m = at0(w, Check.code(99, 0, unit, JBUS));
            Check.same("stuck", m.step(1), 0);
            m.go(1);
            m.step(1);
            Check.same("unit " + unit + " is not busy", m.state(0), 2);
            Check.same("no line", m.state(5), 0);
            Check.same("the tape is where it was", m.state(6), 0);
            Check.refuses("no card is gone", Check.STATE, () -> m.card(1, 1, 1, 1));
        }
    }

    private static void waitingSteps() {
        Check.sentence("WAIT: nothing is done, and the same instruction comes again");
        for (int[] first : WORKS) {
            for (int[] second : WORKS) {
                if (first[1] != second[1]) {
                    continue;
                }
                int busy = busyStepsOf(first[1]);
                int address = first[1] == 0 && first[0] == IOC ? 2 : 100;
                MixMachine m = at0(Check.code(address, 0, first[1], first[0]), Check.code(100, 0, second[1], second[0]));
                m.step(1);
                int block = m.state(6);
                int lines = m.state(5);
                m.poke(100, 12345);
                for (int i = 1; i <= busy; i++) {
                    Check.same("a step that waits", m.step(1), 1);
                    Check.same("waited", m.state(7), i);
                    Check.same("time", m.state(1), 1 + i);
                    Check.same("place", m.state(0), 1);
                    Check.same("it goes", m.state(4), 0);
                    Check.same("tape", m.state(6), block);
                    Check.same("lines", m.state(5), lines);
                    Check.same("word", m.word(100), 12345);
                }
                Check.same("the step that does it", m.step(1), 1);
                Check.same("waited", m.state(7), busy);
                Check.same("place then", m.state(0), 2);
            }
        }
    }

    private static void waitingWhateverElse() {
        Check.sentence("(whatever else would be stuck, be it the index or what the unit can't do)");
        int[][] makers = {{Check.code(1, 0, 0, IOC), 0}, {Check.code(100, 0, 16, IN), 16}, {Check.code(100, 0, 18, OUT), 18}};
        for (int[] maker : makers) {
            int unit = maker[1];
            int busy = busyStepsOf(unit);
            int[] others = {Check.code(100, 7, unit, IOC), Check.code(100, 63, unit, IN), Check.code(100, 7, unit, OUT), Check.code(200, 0, unit, unit == 16 ? IN : OUT),
                Check.minusCode(1, 0, unit, unit == 18 ? OUT : IN), unit == 0 ? Check.code(191, 0, 0, IN) : unit == 16 ? Check.code(1, 0, 16, IOC) : Check.code(1, 0, 18, IN),
                unit == 16 ? Check.code(1, 0, 16, OUT) : Check.code(195, 0, unit, OUT)};
            for (int other : others) {
                MixMachine m = at0(maker[0], other);
                Check.same("the first, and those that wait", m.step(500), 1 + busy);
                Check.same("waited", m.state(7), busy);
                Check.same("stuck then", m.state(4), 2);
                Check.same("place", m.state(0), 1);
                m.go(1);
                Check.same("it is not busy any more", m.step(1), 0);
            }
        }
        MixMachine last = at0(Check.code(6, 0, 0, IOC), Check.code(100, 0, 0, IN));
        Check.same("behind the last block", last.step(500), 5);
        MixMachine cards = new MixMachine();
        cards.poke(0, Check.code(100, 0, 16, IN));
        cards.poke(1, Check.code(100, 0, 16, IN));
        cards.card(1, 1, 1, 1);
        cards.go(0);
        Check.same("without a card", cards.step(500), 9);
        for (int jump : new int[] {JBUS, JRED}) {
            MixMachine m = at0(Check.code(1, 0, 0, IOC), Check.code(9, 7, 0, jump));
            Check.same("jumps do not wait", m.step(500), 1);
        }
        MixMachine none = at0(Check.code(1, 0, 0, IOC), Check.code(9, 0, 1, IOC));
        Check.same("a unit that is none is not waited for", none.step(500), 1);
    }

    private static void waitingIsNoWork() {
        Check.sentence("steps behind one that did this", "one that waited did not");
        for (int[] work : WORKS) {
            int busy = busyStepsOf(work[1]);
            MixMachine m = at0(Check.code(2, 0, work[1], work[0]), Check.code(100, 0, work[1], work[0]));
            m.step(1);
            m.step(busy - 1);
            m.poke(1, Check.code(60, 0, work[1], JBUS));
            m.poke(60, Check.code(70, 0, work[1], JBUS));
            m.step(1);
            Check.same("in the last step it is busy", m.state(0), 60);
            m.step(1);
            Check.same("in the next it is not", m.state(0), 61);
        }
    }

    private static void timeOfWaiting() {
        Check.sentence("steps that waited (7)");
        MixMachine m = at0(Check.code(100, 0, 18, OUT), Check.code(100, 0, 18, OUT), Check.code(100, 0, 18, OUT), Check.code(0, 0, 2, 5));
        Check.same("1, 6, 1, 6, 1, HLT", m.step(500), 16);
        Check.same("time", m.state(1), 16);
        Check.same("waited", m.state(7), 12);
        m.go(0);
        Check.same("no time went by while it was stopped", m.step(5), 5);
        Check.same("all but the first HLT's step", m.state(7), 17);
    }

    private static void assembledWhileBusy() {
        Check.sentence("(registers, time, units stay)");
        MixMachine m = at0(Check.code(100, 0, 18, OUT), Check.code(100, 0, 18, OUT));
        m.step(3);
        Check.type(m, Check.lines(" OUT 100(18)", " HLT", " END 0"));
        m.assemble();
        Check.same("it is busy still: 4 that wait", m.step(4), 4);
        Check.same("waited", m.state(7), 6);
        Check.same("place", m.state(0), 0);
        m.step(1);
        Check.same("printed", m.state(5), 2);
        Check.same("time", m.state(1), 8);
    }
}
