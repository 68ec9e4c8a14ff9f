/** Promises 7 to 11 and 15: what the calls answer and refuse. */
public final class FaceTest {
    private static final int[] NO_PLACES = {Integer.MIN_VALUE, -1, 200, Integer.MAX_VALUE};

    public static void main(String[] args) {
        steps();
        go();
        pokeAndWord();
        registers();
        states();
        Check.end();
    }

    private static void steps() {
        MixMachine m = Check.assembled(" INCA 1", " JMP 0", " END 0");
        Check.same("step 1", m.step(1), 1);
        Check.same("step 500", m.step(500), 500);
        Check.same("A", m.register(0), Check.word(251));
        for (int n : new int[] {Integer.MIN_VALUE, -1, 0, 501, Integer.MAX_VALUE}) {
            Check.refuses("step " + n, Check.ARGUMENT, () -> m.step(n));
        }
        Check.same("steps that were done", m.state(1), 501);
        MixMachine halted = Check.assembled(" NOP", " HLT", " NOP", " END 0");
        Check.same("HLT is a step", halted.step(9), 2);
        Check.refuses("it has stopped", Check.STATE, () -> halted.step(1));
        Check.refuses("the argument first", Check.ARGUMENT, () -> halted.step(0));
        MixMachine stuck = Check.assembled(" NOP", " LDA 3000", " END 0");
        Check.same("what is stuck is none", stuck.step(9), 1);
        Check.refuses("it is stuck", Check.STATE, () -> stuck.step(1));
        MixMachine exact = Check.assembled(" NOP", " LDA 3000", " END 0");
        Check.same("it is not tried yet", exact.step(1), 1);
        Check.same("so it goes", exact.state(4), 0);
        Check.same("it is tried", exact.step(1), 0);
        Check.same("and is stuck", exact.state(4), 2);
    }

    private static void go() {
        MixMachine m = new MixMachine();
        Check.same("it had stopped", m.go(199), true);
        Check.same("place", m.state(0), 199);
        Check.same("it goes", m.state(4), 0);
        Check.same("it went", m.go(0), false);
        for (int place : NO_PLACES) {
            Check.refuses("go " + place, Check.ARGUMENT, () -> m.go(place));
        }
        Check.same("all stays", m.state(0), 0);
        m.poke(0, Check.code(3000, 0, 0, 39));
        Check.same("stuck", m.step(1), 0);
        Check.same("it was stuck", m.go(5), true);
        Check.same("it goes again", m.step(1), 1);
        Check.same("from there", m.state(0), 6);
        MixMachine halted = Check.assembled(" ENTA 5", " HLT", " END 0");
        halted.step(9);
        Check.refuses("no place", Check.ARGUMENT, () -> halted.go(200));
        Check.same("it is stopped still", halted.state(4), 1);
        Check.same("it had stopped by HLT", halted.go(1), true);
        Check.same("A stays", halted.register(0), Check.word(5));
        Check.same("time stays", halted.state(1), 2);
    }

    private static void pokeAndWord() {
        MixMachine m = new MixMachine();
        Check.same("poke", m.poke(0, 5), 0);
        Check.same("poke again", m.poke(0, Integer.MAX_VALUE), 5);
        Check.same("word", m.word(0), Integer.MAX_VALUE);
        Check.same("minus 0", m.poke(199, 1), 0);
        Check.same("word 199", m.word(199), 1);
        for (int place : NO_PLACES) {
            Check.refuses("poke " + place, Check.BOUNDS, () -> m.poke(place, 1));
            Check.refuses("the place first", Check.BOUNDS, () -> m.poke(place, -1));
            Check.refuses("word " + place, Check.BOUNDS, () -> m.word(place));
        }
        Check.refuses("no word", Check.ARGUMENT, () -> m.poke(0, -1));
        Check.refuses("no word", Check.ARGUMENT, () -> m.poke(0, Integer.MIN_VALUE));
        Check.same("all stays", m.word(0), Integer.MAX_VALUE);
    }

    private static void registers() {
        MixMachine m = Check.assembled(" ENTA 1", " ENT1 2", " ENT2 3", " ENT3 4", " ENT4 5", " ENT5 6", " ENN6 7", " ENTX 8", " JMP 50", " END 0");
        m.step(9);
        int[] due = {1, 2, 3, 4, 5, 6, -7, 8, 9};
        for (int r = 0; r < due.length; r++) {
            Check.same("register " + r, m.register(r), Check.word(due[r]));
        }
        for (int r : new int[] {Integer.MIN_VALUE, -1, 9, Integer.MAX_VALUE}) {
            Check.refuses("register " + r, Check.BOUNDS, () -> m.register(r));
        }
    }

    private static void states() {
        MixMachine m = Check.assembled(" LDA 8", " INCA 1", " CMPA 8", " OUT 0(18)", " OUT 0", " IOC 2", " HLT", " ORIG 8", " CON 32767*32769", " END 0");
        m.step(20);
        int[] due = {7, 11, 1, -1, 1, 1, 3, 4};
        for (int what = 0; what < due.length; what++) {
            Check.same("state " + what, m.state(what), due[what]);
        }
        for (int what : new int[] {Integer.MIN_VALUE, -1, 8, Integer.MAX_VALUE}) {
            Check.refuses("state " + what, Check.BOUNDS, () -> m.state(what));
        }
    }
}
