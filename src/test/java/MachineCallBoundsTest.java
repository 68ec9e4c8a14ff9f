/** Promises 1 and 7 to 15 at their bounds: the calls that run the machine and look at it, sentence by sentence. */
public final class MachineCallBoundsTest {
    private static final int[] FAR = {Integer.MIN_VALUE, Integer.MIN_VALUE + 1, -65536, -256, -200, 65536, 1 << 30, Integer.MAX_VALUE};

    public static void main(String[] args) {
        atFirst();
        numberOfSteps();
        hasStopped();
        stepExceptionsInOrder();
        stepsThatWereDone();
        whatIsTriedLast();
        goPlaces();
        goAnswers();
        goKeepsAllElse();
        pokePlaces();
        pokeWords();
        pokeExceptionsInOrder();
        wordPlaces();
        registerNumbers();
        cardWords();
        sixCards();
        cardExceptionsInOrder();
        printedLines();
        printedWords();
        tapeWords();
        stateNumbers();
        stateOfOneThatIsStuck();
        stateOfOneThatStopped();
        toggleAndIndicator();
        Check.end();
    }

    private static void atFirst() {
        Check.sentence("All as at first; stopped at place 0.");
        MixMachine m = new MixMachine();
        Check.same("place", m.state(0), 0);
        Check.same("stopped by HLT", m.state(4), 1);
        Check.refuses("step", Check.STATE, () -> m.step(1));
        Check.refuses("no line was printed", Check.BOUNDS, () -> m.printed(0, 0));
        Check.same("it had stopped", m.go(0), true);
        Check.same("all words are NOP: 200 steps", m.step(500), 200);
        Check.same("stuck behind the last place", m.state(4), 2);
        Check.same("at 200", m.state(0), 200);
        MixMachine reader = new MixMachine();
        reader.poke(0, Check.code(100, 0, 16, 36));
        reader.go(0);
        Check.same("no card is there", reader.step(1), 0);
        Check.same("the first card is the first", reader.card(1, 1, 1, 1), 1);
    }

    private static MixMachine circling() {
        return Check.assembled(" NOP", " JMP 0", " END 0");
    }

    private static void numberOfSteps() {
        Check.sentence("IllegalArgumentException, when n is not so");
        for (int n : new int[] {1, 2, 499, 500}) {
            MixMachine m = circling();
            Check.same("step " + n, m.step(n), n);
            Check.same("time", m.state(1), n);
        }
        MixMachine m = circling();
        for (int n : new int[] {0, -1, 501, 502}) {
            Check.refuses("step " + n, Check.ARGUMENT, () -> m.step(n));
        }
        for (int n : FAR) {
            Check.refuses("step " + n, Check.ARGUMENT, () -> m.step(n));
        }
        Check.same("none was done", m.state(1), 0);
        Check.changesNothing("step 0", u -> { }, Check.ARGUMENT, u -> u.step(0));
        Check.changesNothing("step 501", u -> { }, Check.ARGUMENT, u -> u.step(501));
    }

    private static void halt(MixMachine m) {
        m.poke(171, Check.code(0, 0, 2, 5));
        m.step(1);
    }

    private static void makeStuck(MixMachine m) {
        m.poke(171, Check.code(200, 0, 0, 39));
        m.step(1);
    }

    private static void hasStopped() {
        Check.sentence("IllegalStateException, when it has stopped.");
        Check.changesNothing("by HLT", m -> halt(m), Check.STATE, m -> m.step(1));
        Check.changesNothing("stuck", m -> makeStuck(m), Check.STATE, m -> m.step(500));
        MixMachine m = new MixMachine();
        Check.refuses("at first", Check.STATE, () -> m.step(1));
        m.go(0);
        Check.same("it goes", m.step(1), 1);
    }

    private static void stepExceptionsInOrder() {
        Check.sentence("Of several exceptions of a call the one that is listed first is thrown.", "step");
        Check.changesNothing("by HLT", m -> halt(m), Check.ARGUMENT, m -> m.step(0));
        Check.changesNothing("by HLT", m -> halt(m), Check.ARGUMENT, m -> m.step(501));
        Check.changesNothing("stuck", m -> makeStuck(m), Check.ARGUMENT, m -> m.step(-1));
    }

    private static void stepsThatWereDone() {
        Check.sentence("how many were done (also waiting, and HLT; one that is stuck is none");
        MixMachine m = Check.assembled(" OUT 0(18)", " OUT 0(18)", " HLT", " END 0");
        Check.same("one, six that wait, one, HLT", m.step(500), 9);
        MixMachine exact = Check.assembled(" NOP", " HLT", " END 0");
        Check.same("HLT is the last of them", exact.step(2), 2);
        Check.same("it stopped", exact.state(4), 1);
        MixMachine before = Check.assembled(" NOP", " HLT", " END 0");
        Check.same("HLT is the next", before.step(1), 1);
        Check.same("it goes still", before.state(4), 0);
        Check.same("HLT alone", before.step(1), 1);
        MixMachine waiting = Check.assembled(" OUT 0(18)", " OUT 0(18)", " END 0");
        waiting.step(1);
        Check.same("waiting alone", waiting.step(6), 6);
        Check.same("it goes still", waiting.state(4), 0);
    }

    private static void whatIsTriedLast() {
        Check.sentence("one that is stuck is none, and the last that is tried");
        MixMachine m = Check.assembled(" NOP", " NOP", " JMP 200", " END 0");
        Check.same("up to it", m.step(2), 2);
        Check.same("it goes", m.state(4), 0);
        Check.same("it alone", m.step(1), 0);
        Check.same("it is stuck", m.state(4), 2);
        MixMachine far = Check.assembled(" NOP", " NOP", " JMP 200", " END 0");
        Check.same("of three", far.step(3), 2);
        Check.same("time", far.state(1), 2);
        Check.same("place", far.state(0), 2);
    }

    private static void goPlaces() {
        Check.sentence("IllegalArgumentException, when there is no such place.", "go");
        MixMachine m = new MixMachine();
        for (int place : new int[] {0, 1, 198, 199}) {
            m.go(place);
            Check.same("go " + place, m.state(0), place);
        }
        for (int place : new int[] {-2, -1, 200, 201}) {
            Check.refuses("go " + place, Check.ARGUMENT, () -> m.go(place));
        }
        for (int place : FAR) {
            Check.refuses("go " + place, Check.ARGUMENT, () -> m.go(place));
        }
        Check.same("place", m.state(0), 199);
        Check.changesNothing("while it goes", u -> { }, Check.ARGUMENT, u -> u.go(200));
        Check.changesNothing("stopped", u -> halt(u), Check.ARGUMENT, u -> u.go(-1));
        Check.changesNothing("stuck", u -> makeStuck(u), Check.ARGUMENT, u -> u.go(200));
    }

    private static void goAnswers() {
        Check.sentence("whether it had stopped");
        MixMachine m = new MixMachine();
        Check.same("at first", m.go(0), true);
        Check.same("it goes", m.go(0), false);
        MixMachine halted = Check.used();
        halt(halted);
        Check.same("by HLT", halted.go(3), true);
        Check.same("not any more", halted.go(3), false);
        MixMachine stuck = Check.used();
        makeStuck(stuck);
        Check.same("stuck", stuck.go(3), true);
        Check.same("not any more", stuck.go(3), false);
        MixMachine assembled = Check.assembled(" END 0");
        Check.same("assembled", assembled.go(3), false);
    }

    private static void goKeepsAllElse() {
        Check.sentence("The machine is at a place and goes, all else stays");
        MixMachine m = Check.used();
        MixMachine jumped = Check.used();
        jumped.poke(171, Check.code(5, 0, 1, 39));
        jumped.step(1);
        m.poke(171, Check.code(5, 0, 1, 39));
        m.poke(198, 0);
        m.go(198);
        m.step(1);
        m.go(5);
        Check.looksLike("go", m, jumped);
        MixMachine busy = Check.assembled(" OUT 0(18)", " OUT 0(18)", " END 0");
        busy.step(1);
        for (int i = 0; i < 10; i++) {
            busy.go(1);
        }
        Check.same("no time goes by", busy.step(6), 6);
        Check.same("all of them waited", busy.state(7), 6);
    }

    private static void pokePlaces() {
        Check.sentence("IndexOutOfBoundsException, when there is no such place");
        MixMachine m = new MixMachine();
        for (int place : new int[] {0, 1, 198, 199}) {
            Check.same("poke " + place, m.poke(place, 7 + place), 0);
            Check.same("word " + place, m.word(place), 7 + place);
            Check.same("the one before", m.poke(place, 3), 7 + place);
        }
        for (int place : new int[] {-2, -1, 200, 201}) {
            Check.refuses("poke " + place, Check.BOUNDS, () -> m.poke(place, 0));
        }
        for (int place : FAR) {
            Check.refuses("poke " + place, Check.BOUNDS, () -> m.poke(place, 0));
        }
        Check.changesNothing("poke 200", u -> { }, Check.BOUNDS, u -> u.poke(200, 5));
        Check.changesNothing("poke -1", u -> { }, Check.BOUNDS, u -> u.poke(-1, 5));
    }

    private static void pokeWords() {
        Check.sentence("IllegalArgumentException, when w is below 0.");
        MixMachine m = new MixMachine();
        m.poke(5, 4);
        for (int w : new int[] {-1, -2, Integer.MIN_VALUE}) {
            Check.refuses("poke " + w, Check.ARGUMENT, () -> m.poke(5, w));
        }
        int before = 4;
        for (int w : new int[] {0, 1, 2, Integer.MAX_VALUE - 1, Integer.MAX_VALUE}) {
            Check.same("poke " + w, m.poke(5, w), before);
            Check.same("word", m.word(5), w);
            before = w;
        }
        Check.changesNothing("poke -1", u -> { }, Check.ARGUMENT, u -> u.poke(100, -1));
    }

    private static void pokeExceptionsInOrder() {
        Check.sentence("Of several exceptions of a call the one that is listed first is thrown.", "poke");
        MixMachine m = new MixMachine();
        for (int w : new int[] {-1, Integer.MIN_VALUE}) {
            for (int place : new int[] {-1, 200, Integer.MIN_VALUE, Integer.MAX_VALUE}) {
                Check.refuses("poke of " + w + " into " + place, Check.BOUNDS, () -> m.poke(place, w));
            }
            for (int place : new int[] {0, 199}) {
                Check.refuses("poke of " + w + " into " + place, Check.ARGUMENT, () -> m.poke(place, w));
            }
        }
        Check.changesNothing("poke of -1 into 200", u -> { }, Check.BOUNDS, u -> u.poke(200, -1));
    }

    private static void wordPlaces() {
        Check.sentence("A place's word. IndexOutOfBoundsException, when there is none.");
        MixMachine m = new MixMachine();
        m.poke(0, 5);
        m.poke(199, 6);
        Check.same("word 0", m.word(0), 5);
        Check.same("word 199", m.word(199), 6);
        for (int place : new int[] {-2, -1, 200, 201}) {
            Check.refuses("word " + place, Check.BOUNDS, () -> m.word(place));
        }
        for (int place : FAR) {
            Check.refuses("word " + place, Check.BOUNDS, () -> m.word(place));
        }
        Check.changesNothing("word 200", u -> { }, Check.BOUNDS, u -> u.word(200));
    }

    private static void registerNumbers() {
        Check.sentence("A register as a word: A (0), I1 .. I6, X (7), J (8). IndexOutOfBoundsException, when there is none.");
        MixMachine m = Check.used();
        int[] due = {Check.word(-5), Check.word(110), Check.word(2), Check.word(-3), Check.word(4), Check.word(5), Check.word(-6), Check.word(777), Check.word(163)};
        for (int r = 0; r <= 8; r++) {
            Check.same("register " + r, m.register(r), due[r]);
        }
        for (int r : new int[] {-2, -1, 9, 10}) {
            Check.refuses("register " + r, Check.BOUNDS, () -> m.register(r));
        }
        for (int r : FAR) {
            Check.refuses("register " + r, Check.BOUNDS, () -> m.register(r));
        }
        Check.changesNothing("register 9", u -> { }, Check.BOUNDS, u -> u.register(9));
    }

    private static void cardWords() {
        Check.sentence("IllegalArgumentException, when one of its words is below 0");
        MixMachine m = new MixMachine();
        for (int w : new int[] {-1, -2, Integer.MIN_VALUE}) {
            Check.refuses("a " + w, Check.ARGUMENT, () -> m.card(w, 0, 0, 0));
            Check.refuses("b " + w, Check.ARGUMENT, () -> m.card(0, w, 0, 0));
            Check.refuses("c " + w, Check.ARGUMENT, () -> m.card(0, 0, w, 0));
            Check.refuses("d " + w, Check.ARGUMENT, () -> m.card(0, 0, 0, w));
        }
        Check.same("none came; 0 is a word", m.card(0, 0, 0, 0), 1);
        Check.same("the greatest", m.card(Integer.MAX_VALUE, Integer.MAX_VALUE, Integer.MAX_VALUE, Integer.MAX_VALUE), 2);
        Check.changesNothing("d -1", u -> { }, Check.ARGUMENT, u -> u.card(1, 1, 1, -1));
        Check.changesNothing("a -1", u -> { }, Check.ARGUMENT, u -> u.card(-1, 1, 1, 1));
    }

    private static void sixCards() {
        Check.sentence("IllegalStateException, when there are six.");
        MixMachine m = Check.assembled(" IN 100(16)", " JMP 0", " END 0");
        for (int i = 1; i <= 6; i++) {
            Check.same("card " + i, m.card(i, i, i, i), i);
        }
        Check.refuses("a seventh", Check.STATE, () -> m.card(7, 7, 7, 7));
        m.step(1);
        Check.same("the oldest is gone", m.word(100), 1);
        Check.same("so there are six again", m.card(8, 8, 8, 8), 6);
        Check.refuses("a seventh again", Check.STATE, () -> m.card(9, 9, 9, 9));
        for (int due : new int[] {2, 3, 4, 5, 6, 8}) {
            m.go(150);
            m.step(8);
            m.go(0);
            m.step(1);
            Check.same("the oldest that is left", m.word(100), due);
        }
        Check.same("the first of an empty reader", m.card(1, 1, 1, 1), 1);
        Check.changesNothing("a seventh", u -> fillReader(u), Check.STATE, u -> u.card(1, 1, 1, 1));
    }

    private static void cardExceptionsInOrder() {
        Check.sentence("Of several exceptions of a call the one that is listed first is thrown.", "card");
        MixMachine m = Check.used();
        fillReader(m);
        Check.refuses("six, and all are words", Check.STATE, () -> m.card(0, 0, 0, 0));
        for (int w : new int[] {-1, Integer.MIN_VALUE}) {
            Check.refuses("six, and a is no word", Check.ARGUMENT, () -> m.card(w, 7, 7, 7));
            Check.refuses("six, and b is no word", Check.ARGUMENT, () -> m.card(7, w, 7, 7));
            Check.refuses("six, and c is no word", Check.ARGUMENT, () -> m.card(7, 7, w, 7));
            Check.refuses("six, and d is no word", Check.ARGUMENT, () -> m.card(7, 7, 7, w));
        }
        Check.changesNothing("six, and no word", u -> fillReader(u), Check.ARGUMENT, u -> u.card(1, 1, -1, 1));
    }

    private static void fillReader(MixMachine m) {
        for (int i = 0; i < 4; i++) {
            m.card(i, i, i, i);
        }
    }

    private static MixMachine printed(int lines) {
        MixMachine m = Check.assembled(" OUT 100(18)", " INC1 1", " ST1 100", " JMP 0", " END 0");
        for (int i = 1; i < 6; i++) {
            m.poke(100 + i, 50 + i);
        }
        for (int i = 0; i < lines; i++) {
            m.step(1);
            m.step(6);
        }
        return m;
    }

    private static void printedLines() {
        Check.sentence("the k-th of the latest eight lines that were printed (0 the latest). IndexOutOfBoundsException, when there is none.");
        for (int lines = 0; lines <= 18; lines++) {
            MixMachine m = printed(lines);
            Check.same("lines", m.state(5), lines);
            for (int k = -2; k <= 10; k++) {
                int line = k;
                if (k >= 0 && k < Math.min(8, lines)) {
                    Check.same(k + " of " + lines, m.printed(k, 0), 2 * (lines - 1 - k));
                } else {
                    Check.refuses(k + " of " + lines, Check.BOUNDS, () -> m.printed(line, 0));
                }
            }
            for (int k : FAR) {
                Check.refuses(k + " of " + lines, Check.BOUNDS, () -> m.printed(k, 0));
            }
        }
        Check.changesNothing("one line was printed", m -> { }, Check.BOUNDS, m -> m.printed(1, 0));
    }

    private static void printedWords() {
        Check.sentence("IndexOutOfBoundsException, when there is none.", "word i of a line");
        MixMachine m = printed(3);
        for (int i = 1; i < 6; i++) {
            Check.same("word " + i, m.printed(0, i), 50 + i);
            Check.same("word " + i + " of the oldest", m.printed(2, i), 50 + i);
        }
        Check.same("word 0", m.printed(0, 0), 4);
        for (int i : new int[] {-2, -1, 6, 7}) {
            Check.refuses("word " + i, Check.BOUNDS, () -> m.printed(0, i));
            Check.refuses("word " + i + " of the oldest", Check.BOUNDS, () -> m.printed(2, i));
            Check.refuses("word " + i + " of none", Check.BOUNDS, () -> m.printed(3, i));
        }
        for (int i : FAR) {
            Check.refuses("word " + i, Check.BOUNDS, () -> m.printed(0, i));
        }
    }

    private static void tapeWords() {
        Check.sentence("Word i of a block of the tape. IndexOutOfBoundsException, when there is none.");
        MixMachine m = Check.assembled(" OUT 100", " JMP 0", " END 0");
        for (int block = 0; block < 6; block++) {
            m.poke(100, 10 + block);
            m.poke(109, 20 + block);
            m.step(1);
            m.step(4);
        }
        for (int block = 0; block < 6; block++) {
            Check.same("the first word of " + block, m.tape(block, 0), 10 + block);
            Check.same("the last word of " + block, m.tape(block, 9), 20 + block);
        }
        for (int none : new int[] {-2, -1, 6, 7}) {
            Check.refuses("block " + none, Check.BOUNDS, () -> m.tape(none, 0));
            Check.refuses("block " + none, Check.BOUNDS, () -> m.tape(none, 9));
        }
        for (int none : new int[] {-2, -1, 10, 11}) {
            Check.refuses("word " + none, Check.BOUNDS, () -> m.tape(0, none));
            Check.refuses("word " + none + " of the last block", Check.BOUNDS, () -> m.tape(5, none));
        }
        for (int none : FAR) {
            Check.refuses("block " + none, Check.BOUNDS, () -> m.tape(none, 0));
            Check.refuses("word " + none, Check.BOUNDS, () -> m.tape(0, none));
        }
        Check.changesNothing("block 6", u -> { }, Check.BOUNDS, u -> u.tape(6, 0));
    }

    private static void stateNumbers() {
        Check.sentence("IndexOutOfBoundsException, for another what.");
        MixMachine m = Check.used();
        int[] due = {171, 21, 1, -1, 0, 1, 1, 0};
        for (int what = 0; what <= 7; what++) {
            Check.same("state " + what, m.state(what), due[what]);
        }
        for (int what : new int[] {-2, -1, 8, 9}) {
            Check.refuses("state " + what, Check.BOUNDS, () -> m.state(what));
        }
        for (int what : FAR) {
            Check.refuses("state " + what, Check.BOUNDS, () -> m.state(what));
        }
        Check.changesNothing("state 8", u -> { }, Check.BOUNDS, u -> u.state(8));
    }

    private static void stateOfOneThatIsStuck() {
        Check.sentence("The place (0; of one that is stuck its own)");
        MixMachine m = Check.assembled(" NOP", " NOP", " LDA 200", " END 0");
        m.step(9);
        Check.same("its own", m.state(0), 2);
        Check.same("2 when it is stuck", m.state(4), 2);
        Check.same("steps that were done", m.state(1), 2);
        MixMachine first = Check.assembled(" JMP -1", " END 0");
        first.step(9);
        Check.same("at place 0", first.state(0), 0);
        MixMachine last = Check.assembled(" ORIG 199", " JMP 200", " END 199");
        last.step(9);
        Check.same("at place 199", last.state(0), 199);
        MixMachine behind = Check.assembled(" ORIG 199", " NOP", " END 199");
        Check.same("one was done", behind.step(1), 1);
        Check.same("it goes at 200", behind.state(4), 0);
        Check.same("at 200", behind.state(0), 200);
        Check.same("none is done there", behind.step(1), 0);
        Check.same("stuck at 200", behind.state(4), 2);
        Check.same("place 200", behind.state(0), 200);
    }

    private static void toggleAndIndicator() {
        Check.sentence("1 when the toggle is on, else 0 (2), the indicator (3)");
        MixMachine m = Check.assembled(" CMPA 20", " CMPA 21", " CMPA 22", " LDA 20", " ADD 20", " JOV *+1", " ORIG 20", " CON 32767*32769", " CON -1", " CON -1(0)", " END 0");
        int[] indicators = {0, -1, 1, 0, 0, 0, 0};
        int[] toggles = {0, 0, 0, 0, 0, 1, 0};
        for (int i = 0; i < 7; i++) {
            Check.same("indicator behind " + i, m.state(3), indicators[i]);
            Check.same("toggle behind " + i, m.state(2), toggles[i]);
            m.step(1);
        }
    }

    private static void stateOfOneThatStopped() {
        Check.sentence("0 while it goes, 1 when it stopped by HLT (and at first), 2 when it is stuck (4)");
        MixMachine m = new MixMachine();
        Check.same("at first", m.state(4), 1);
        m.go(0);
        Check.same("it goes", m.state(4), 0);
        m.poke(0, Check.code(0, 0, 2, 5));
        m.step(1);
        Check.same("by HLT", m.state(4), 1);
        Check.same("at the next place", m.state(0), 1);
        m.poke(1, Check.code(0, 7, 0, 0));
        m.go(1);
        m.step(1);
        Check.same("stuck", m.state(4), 2);
        m.go(2);
        Check.same("it goes again", m.state(4), 0);
    }
}
