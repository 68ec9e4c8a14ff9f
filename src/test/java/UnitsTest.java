/** Promises 12, 13 and 14, and of promise 7 the units: cards, lines, the tape, being busy and waiting. */
public final class UnitsTest {
    public static void main(String[] args) {
        cards();
        cardsAreRead();
        lines();
        tapeBlocks();
        tapeIsMoved();
        stuckUnits();
        busySteps();
        busyJumps();
        waitsWhateverElse();
        stuckIsNoStep();
        Check.end();
    }

    private static void cards() {
        MixMachine m = new MixMachine();
        for (int i = 1; i <= 6; i++) {
            Check.same("card", m.card(i, 0, Integer.MAX_VALUE, 1), i);
        }
        Check.refuses("a seventh", Check.STATE, () -> m.card(1, 1, 1, 1));
        Check.refuses("the argument first", Check.ARGUMENT, () -> m.card(1, 1, 1, -1));
        MixMachine other = new MixMachine();
        Check.refuses("a", Check.ARGUMENT, () -> other.card(-1, 1, 1, 1));
        Check.refuses("b", Check.ARGUMENT, () -> other.card(1, Integer.MIN_VALUE, 1, 1));
        Check.refuses("c", Check.ARGUMENT, () -> other.card(1, 1, -1, 1));
        Check.refuses("d", Check.ARGUMENT, () -> other.card(1, 1, 1, -1));
        Check.same("none came", other.card(0, 0, 0, 0), 1);
    }

    private static void cardsAreRead() {
        MixMachine m = Check.assembled(" IN 196(16)", " JMP 0", " END 0");
        int given = 0;
        for (int i = 0; i < 6; i++) {
            given = m.card(10 * i, 10 * i + 1, 10 * i + 2, 10 * i + 3);
        }
        for (int i = 0; i < 20; i++) {
            Check.same("six", given, 6);
            m.step(1);
            for (int k = 0; k < 4; k++) {
                Check.same("the oldest", m.word(196 + k), 10 * i + k);
            }
            given = m.card(10 * (i + 6), 10 * (i + 6) + 1, 10 * (i + 6) + 2, 10 * (i + 6) + 3);
            m.step(8);
        }
    }

    private static void lines() {
        MixMachine m = Check.assembled(" OUT 194(18)", " INCA 1", " STA 194", " JMP 0", " END 0");
        m.poke(199, 5);
        Check.same("none", m.state(5), 0);
        for (int n = 1; n <= 20; n++) {
            m.step(1);
            Check.same("lines", m.state(5), n);
            Check.same("the latest", m.printed(0, 0), Check.word(n - 1));
            Check.same("its last word", m.printed(0, 5), 5);
            int kept = Math.min(n, 8);
            Check.same("the last that is kept", m.printed(kept - 1, 0), Check.word(n - kept));
            Check.refuses("one more", Check.BOUNDS, () -> m.printed(kept, 0));
            Check.same("steps", m.step(6), 6);
        }
        Check.refuses("k -1", Check.BOUNDS, () -> m.printed(-1, 0));
        Check.refuses("i -1", Check.BOUNDS, () -> m.printed(0, -1));
        Check.refuses("i 6", Check.BOUNDS, () -> m.printed(0, 6));
        Check.refuses("k 8", Check.BOUNDS, () -> m.printed(8, 5));
        m.poke(194, 9999);
        Check.same("a line stays as it was printed", m.printed(0, 0), Check.word(19));
    }

    private static void tapeBlocks() {
        MixMachine m = Check.assembled(" OUT 100", " IOC 0", " IN 190", " END 0");
        for (int i = 0; i < 10; i++) {
            m.poke(100 + i, 50 + i);
        }
        m.step(1);
        Check.same("at the next block", m.state(6), 1);
        for (int i = 0; i < 10; i++) {
            Check.same("written", m.tape(0, i), 50 + i);
            Check.same("another block", m.tape(1, i), 0);
        }
        m.step(10);
        for (int i = 0; i < 10; i++) {
            Check.same("read", m.word(190 + i), 50 + i);
        }
        Check.same("at the next block", m.state(6), 1);
        int[][] none = {{-1, 0}, {6, 0}, {0, -1}, {0, 10}, {Integer.MAX_VALUE, 1}, {Integer.MIN_VALUE, 1}};
        for (int[] at : none) {
            Check.refuses("tape " + at[0] + " " + at[1], Check.BOUNDS, () -> m.tape(at[0], at[1]));
        }
        MixMachine all = Check.assembled(" OUT 100", " STA 100", " INCA 1", " NOP", " NOP", " JMP 0", " END 0");
        Check.same("stuck behind the last block", all.step(500), 36);
        Check.same("at block 6", all.state(6), 6);
        Check.same("stuck", all.state(4), 2);
        Check.same("block 5", all.tape(5, 0), Check.word(4));
    }

    private static void tapeIsMoved() {
        MixMachine m = Check.assembled(" IOC 4", " IOC -1", " IOC 9", " IOC -2", " IOC -4095", " IOC 5", " IOC 0", " IOC 1", " END 0");
        int[] due = {4, 3, 6, 4, 0, 5, 0, 1};
        m.step(1);
        for (int i = 0; i < due.length; i++) {
            Check.same("block", m.state(6), due[i]);
            m.step(i + 1 < due.length ? 5 : 1);
        }
        MixMachine behind = Check.assembled(" IOC 6", " NOP", " NOP", " NOP", " NOP", " IN 100", " END 0");
        Check.same("IN behind the last one", behind.step(9), 5);
        Check.same("it is there still", behind.state(6), 6);
    }

    private static void stuckUnits() {
        String[] wrong = {"IN 0(16)", "IN 0(18)", "OUT 0(16)", "IOC 0(16)", "OUT 195(18)", "OUT -1(18)", "IN 191", "IN -1", "OUT 191", "IN 200",
            "IN 0(1)", "OUT 0(17)", "IOC 0(19)", "JBUS 0(1)", "JRED 0(15)", "JBUS 3000(63)", "JRED 200(0)", "JRED -1(18)", "IOC 0(63)"};
        for (String instruction : wrong) {
            MixMachine m = Check.stuck(instruction, 12, 14, 16);
            Check.same(instruction + ": tape", m.state(6), 0);
            Check.same(instruction + ": printed", m.state(5), 0);
            m.go(0);
            Check.same(instruction + ": not busy", m.step(1), 0);
        }
        Check.same("JBUS, not taken", Check.done("JBUS 3000(18)", 12, 14, 16).state(0), 1);
        MixMachine m = Check.assembled(" IN 197(16)", " END 0");
        m.card(1, 2, 3, 4);
        Check.same("no place for a card", m.step(1), 0);
        m.poke(0, Check.code(196, 0, 16, 36));
        m.go(0);
        Check.same("the card was still there", m.step(1), 1);
        Check.same("its last word", m.word(199), 4);
    }

    private static void busy(String instruction, String again, int due) {
        MixMachine m = Check.assembled(" " + instruction, " " + again, " END 0");
        m.card(1, 1, 1, 1);
        m.card(1, 1, 1, 1);
        Check.same(instruction, m.step(1), 1);
        Check.same(instruction + ": waits", m.step(due), due);
        Check.same(instruction + ": waited", m.state(7), due);
        Check.same(instruction + ": time", m.state(1), due + 1);
        Check.same(instruction + ": place", m.state(0), 1);
        Check.same(instruction + ": goes", m.state(4), 0);
        m.step(1);
        Check.same(again + ": done", m.state(0), 2);
        Check.same(again + ": waited", m.state(7), due);
    }

    private static void busySteps() {
        busy("IN 100(0)", "OUT 100(0)", 4);
        busy("OUT 100(0)", "IN 100(0)", 4);
        busy("IOC 1(0)", "IOC 0(0)", 4);
        busy("IN 100(16)", "IN 100(16)", 8);
        busy("OUT 100(18)", "OUT 100(18)", 6);
        busy("IOC 1(18)", "IOC -3000(18)", 6);
        MixMachine m = Check.assembled(" OUT 100(18)", " OUT 100(0)", " IOC 0(18)", " HLT", " END 0");
        m.step(20);
        Check.same("another unit does not wait", m.state(7), 5);
    }

    private static void busyJumps() {
        MixMachine m = Check.assembled(" OUT 100", " JBUS *(0)", " JRED 100(0)", " END 0");
        m.step(1);
        for (int i = 0; i < 4; i++) {
            Check.same("JBUS", m.step(1), 1);
            Check.same("busy", m.state(0), 1);
            Check.same("J", m.register(8), Check.word(2));
        }
        m.step(1);
        Check.same("not busy", m.state(0), 2);
        m.step(1);
        Check.same("JRED", m.state(0), 100);
        Check.same("J of JRED", m.register(8), Check.word(3));
        Check.same("no step waited", m.state(7), 0);
        m = Check.assembled(" OUT 100(18)", " JRED 3000(18)", " JBUS 3000(18)", " END 0");
        Check.same("JRED is not taken, JBUS is stuck", m.step(9), 2);
        Check.same("place", m.state(0), 2);
    }

    private static void waitsWhateverElse() {
        int[] others = {Check.code(0, 7, 18, 37), Check.code(0, 63, 18, 36), Check.code(0, 0, 18, 36), Check.code(3000, 0, 18, 37), Check.code(0, 9, 18, 35)};
        for (int other : others) {
            MixMachine m = Check.assembled(" OUT 100(18)", " END 0");
            m.poke(1, other);
            Check.same("waits first", m.step(100), 7);
            Check.same("waited", m.state(7), 6);
            Check.same("stuck then", m.state(4), 2);
            Check.same("place", m.state(0), 1);
        }
        MixMachine m = Check.assembled(" OUT 100(18)", " END 0");
        m.poke(1, Check.code(1, 7, 18, 34));
        Check.same("JBUS does not wait", m.step(100), 1);
    }

    private static void stuckIsNoStep() {
        MixMachine m = Check.assembled(" OUT 100(18)", " JMP 3000", " OUT 100(18)", " END 0");
        Check.same("steps", m.step(100), 1);
        for (int i = 0; i < 10; i++) {
            m.go(1);
            Check.same("stuck again", m.step(100), 0);
        }
        m.go(2);
        Check.same("time has not gone on", m.step(6), 6);
        Check.same("all six waited", m.state(7), 6);
        m.step(1);
        Check.same("printed", m.state(5), 2);
    }
}
