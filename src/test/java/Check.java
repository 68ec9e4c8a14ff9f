/** What the tests share: it counts and prints the answers that are not the ones that are due. */
final class Check {
    static final Class<IllegalArgumentException> ARGUMENT = IllegalArgumentException.class;
    static final Class<IllegalStateException> STATE = IllegalStateException.class;
    static final Class<IndexOutOfBoundsException> BOUNDS = IndexOutOfBoundsException.class;
    static final Class<java.util.NoSuchElementException> ELEMENT = java.util.NoSuchElementException.class;
    private static int wrong = 0;
    private static String sentence = "";

    /** Something that is done with a machine. */
    interface Use {
        void of(MixMachine m);
    }

    private Check() {
    }

    /** The document's sentence that the next checks are about; it is told with each answer that is wrong. */
    static void sentence(String words) {
        sentence = '"' + words + '"';
    }

    static void sentence(String words, String remark) {
        sentence = '"' + words + "\" (" + remark + ")";
    }

    private static void tell(String fault) {
        wrong++;
        System.out.println((sentence.isEmpty() ? "" : sentence + ": ") + fault);
    }

    static void same(String what, long got, long due) {
        if (got != due) {
            tell(what + " answered " + got + ", due is " + due);
        }
    }

    static void same(String what, boolean got, boolean due) {
        same(what, got ? 1 : 0, due ? 1 : 0);
    }

    /** The very class, as a class below it is another exception. */
    static void refuses(String what, Class<? extends RuntimeException> due, Runnable call) {
        Class<?> got = null;
        try {
            call.run();
        } catch (RuntimeException e) {
            got = e.getClass();
        }
        if (got != due) {
            tell(what + " threw " + got + ", due is " + due);
        }
    }

    static void end() {
        if (wrong > 0) {
            System.out.println(wrong + " answers were wrong");
            System.exit(1);
        }
    }

    /** A word as the face has it. */
    static int word(long value) {
        return (int) (value < 0 ? -2 * value + 1 : 2 * value);
    }

    /** A word of a sign and five bytes. */
    static int bytes(int sign, int b1, int b2, int b3, int b4, int b5) {
        int magnitude = (((b1 * 64 + b2) * 64 + b3) * 64 + b4) * 64 + b5;
        return magnitude * 2 + (sign < 0 ? 1 : 0);
    }

    /** An instruction with a plus address. */
    static int code(int address, int index, int f, int operation) {
        return bytes(1, address / 64, address % 64, index, f, operation);
    }

    static long pack(String characters) {
        long eight = 0;
        for (int i = characters.length() - 1; i >= 0; i--) {
            eight = eight << 8 | characters.charAt(i);
        }
        return eight;
    }

    static String lines(String... lines) {
        return String.join("\n", lines);
    }

    /** The text instead of the one before. */
    static void type(MixMachine m, String text) {
        m.erase();
        for (int i = 0; i < text.length(); i += 8) {
            String part = text.substring(i, Math.min(i + 8, text.length()));
            m.write(pack(part), part.length());
        }
    }

    /** A new machine that has assembled the lines. */
    static MixMachine assembled(String... lines) {
        MixMachine m = new MixMachine();
        type(m, lines(lines));
        try {
            m.assemble();
        } catch (IllegalArgumentException e) {
            tell("line " + m.line() + " was wrong, due is none, of:\n" + lines(lines));
        }
        return m;
    }

    /** The lines are wrong in one of them. */
    static void wrongIn(int line, String... lines) {
        MixMachine m = new MixMachine();
        type(m, lines(lines));
        refuses("assembling\n" + lines(lines) + "\n", ARGUMENT, () -> m.assemble());
        same("the line that is wrong in\n" + lines(lines) + "\n", m.line(), line);
    }

    static void right(String... lines) {
        same("the line that is wrong", assembled(lines).line(), MixMachine.NONE);
    }

    /** The instruction in place 0 alone, from registers A and X and the word in place 100 on: done or stuck. */
    static MixMachine done(String instruction, int a, int x, int w) {
        return tried(instruction, a, x, w, 1);
    }

    static MixMachine stuck(String instruction, int a, int x, int w) {
        MixMachine m = tried(instruction, a, x, w, 0);
        same(instruction + ": stuck", m.state(4), 2);
        same(instruction + ": place", m.state(0), 0);
        same(instruction + ": A stays", m.register(0), a);
        same(instruction + ": X stays", m.register(7), x);
        same(instruction + ": word stays", m.word(100), w);
        return m;
    }

    private static MixMachine tried(String instruction, int a, int x, int w, int due) {
        MixMachine m = assembled(" ORIG 190", " LDA 198", " LDX 199", " JSJ 0", " ORIG 0", " " + instruction, " END 190");
        m.poke(198, a);
        m.poke(199, x);
        m.step(3);
        m.poke(100, w);
        same(instruction + ": steps", m.step(1), due);
        return m;
    }

    /** A machine that goes at place 0, with the instruction there, and with A, X, I1 and the word in place 100. */
    static MixMachine loaded(int instruction, int a, int x, int i1, int w) {
        MixMachine m = new MixMachine();
        int[] words = {code(196, 0, 5, 8), code(197, 0, 5, 15), code(198, 0, 5, 9), code(0, 0, 1, 39), 0, 0, a, x, i1};
        for (int i = 0; i < words.length; i++) {
            m.poke(190 + i, words[i]);
        }
        m.poke(0, instruction);
        m.poke(100, w);
        m.go(190);
        same("loading", m.step(4), 4);
        return m;
    }

    /** An instruction with a minus address. */
    static int minusCode(int address, int index, int f, int operation) {
        return code(address, index, f, operation) | 1;
    }

    /** An instruction whose address is minus when it is below 0. */
    static int codeAt(int address, int index, int f, int operation) {
        return address < 0 ? minusCode(-address, index, f, operation) : code(address, index, f, operation);
    }

    /** A machine that has used all its parts; no unit is busy, two cards are there, and it goes at place 171. */
    static MixMachine used() {
        MixMachine m = assembled(" ORIG 150", " LDA 180", " LDX 181", " LD1 182", " LD2 183", " LD3 184", " LD4 185", " LD5 186", " LD6 187",
            " DECA 9", " CMPA 181", " OUT 180(18)", " OUT 180", " JMP A", "A NOP", "B EQU -7", " END 150");
        int[] words = {word(-1073741820), word(777), word(110), word(2), word(-3), word(4), word(5), word(-6), 88, 89};
        for (int i = 0; i < words.length; i++) {
            m.poke(180 + i, words[i]);
        }
        m.poke(100, bytes(-1, 11, 12, 13, 14, 15));
        m.card(31, 32, 33, 34);
        m.card(41, 42, 43, 44);
        m.step(21);
        return m;
    }

    /** A machine of the same state for each call, and the call is refused and changes nothing. */
    static void changesNothing(String what, Use before, Class<? extends RuntimeException> due, Use call) {
        MixMachine left = used();
        before.of(left);
        MixMachine called = used();
        before.of(called);
        refuses(what, due, () -> call.of(called));
        same(what + ": line", called.line(), left.line());
        same(what + ": stopped", called.state(4), left.state(4));
        looksLike(what, called, left);
    }

    /** All that can be seen is the same, but for line() and whether it has stopped; neither is of use behind this. */
    static void looksLike(String what, MixMachine got, MixMachine due) {
        String[] seen = seen(got).split("\n");
        String[] wanted = seen(due).split("\n");
        for (int i = 0; i < wanted.length; i++) {
            if (!seen[i].equals(wanted[i])) {
                tell(what + " left " + seen[i] + ", due is " + wanted[i]);
            }
        }
    }

    /** In some 340 calls. */
    private static String seen(MixMachine m) {
        StringBuilder all = new StringBuilder();
        for (int what : new int[] {0, 1, 2, 3, 5, 6, 7}) {
            see(all, "state " + what, () -> m.state(what));
        }
        for (int r = 0; r <= 8; r++) {
            all.append("register ").append(r).append(": ").append(m.register(r)).append('\n');
        }
        for (int place = 0; place < 200; place++) {
            all.append("word ").append(place).append(": ").append(m.word(place)).append('\n');
        }
        for (int i = 0; i < 60; i++) {
            all.append("tape ").append(i).append(": ").append(m.tape(i / 10, i % 10)).append('\n');
        }
        for (int i = 0; i < Math.min(8, m.state(5)) * 6; i++) {
            all.append("printed ").append(i).append(": ").append(m.printed(i / 6, i % 6)).append('\n');
        }
        for (String name : new String[] {"A", "B", "C"}) {
            see(all, "symbol " + name, () -> m.symbol(pack(name)));
        }
        see(all, "card", () -> m.card(1, 2, 3, 4));
        see(all, "assemble", () -> m.assemble());
        see(all, "line behind it", () -> m.line());
        see(all, "write", () -> m.write('*', 1));
        see(all, "erase", () -> m.erase());
        return all.toString();
    }

    private static void see(StringBuilder all, String what, java.util.function.IntSupplier call) {
        all.append(what).append(": ");
        try {
            all.append(call.getAsInt());
        } catch (RuntimeException e) {
            all.append(e.getClass().getSimpleName());
        }
        all.append('\n');
    }
}
