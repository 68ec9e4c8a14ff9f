/** What the tests share: it counts and prints the answers that are not the ones that are due. */
final class Check {
    static final Class<IllegalArgumentException> ARGUMENT = IllegalArgumentException.class;
    static final Class<IllegalStateException> STATE = IllegalStateException.class;
    static final Class<IndexOutOfBoundsException> BOUNDS = IndexOutOfBoundsException.class;
    static final Class<java.util.NoSuchElementException> ELEMENT = java.util.NoSuchElementException.class;
    private static int wrong = 0;

    private Check() {
    }

    static void same(String what, long got, long due) {
        if (got != due) {
            wrong++;
            System.out.println(what + " answered " + got + ", due is " + due);
        }
    }

    static void same(String what, boolean got, boolean due) {
        same(what, got ? 1 : 0, due ? 1 : 0);
    }

    /** The very class, as a class below it is another exception. */
    static void refuses(String what, Class<? extends RuntimeException> due, Runnable call) {
        Class<?> got = null;
        try {
            call.run();
        } catch (RuntimeException e) {
            got = e.getClass();
        }
        if (got != due) {
            wrong++;
            System.out.println(what + " threw " + got + ", due is " + due);
        }
    }

    static void end() {
        if (wrong > 0) {
            System.out.println(wrong + " answers were wrong");
            System.exit(1);
        }
    }

    /** A word as the face has it. */
    static int word(long value) {
        return (int) (value < 0 ? -2 * value + 1 : 2 * value);
    }

    /** A word of a sign and five bytes. */
    static int bytes(int sign, int b1, int b2, int b3, int b4, int b5) {
        int magnitude = (((b1 * 64 + b2) * 64 + b3) * 64 + b4) * 64 + b5;
        return magnitude * 2 + (sign < 0 ? 1 : 0);
    }

    /** An instruction with a plus address. */
    static int code(int address, int index, int f, int operation) {
        return bytes(1, address / 64, address % 64, index, f, operation);
    }

    static long pack(String characters) {
        long eight = 0;
        for (int i = characters.length() - 1; i >= 0; i--) {
            eight = eight << 8 | characters.charAt(i);
        }
        return eight;
    }

    static String lines(String... lines) {
        return String.join("\n", lines);
    }

    /** The text instead of the one before. */
    static void type(MixMachine m, String text) {
        m.erase();
        for (int i = 0; i < text.length(); i += 8) {
            String part = text.substring(i, Math.min(i + 8, text.length()));
            m.write(pack(part), part.length());
        }
    }

    /** A new machine that has assembled the lines. */
    static MixMachine assembled(String... lines) {
        MixMachine m = new MixMachine();
        type(m, lines(lines));
        try {
            m.assemble();
        } catch (IllegalArgumentException e) {
            wrong++;
            System.out.println("line " + m.line() + " was wrong, due is none, of:\n" + lines(lines));
        }
        return m;
    }

    /** The lines are wrong in one of them. */
    static void wrongIn(int line, String... lines) {
        MixMachine m = new MixMachine();
        type(m, lines(lines));
        refuses("assembling\n" + lines(lines) + "\n", ARGUMENT, () -> m.assemble());
        same("the line that is wrong in\n" + lines(lines) + "\n", m.line(), line);
    }

    static void right(String... lines) {
        same("the line that is wrong", assembled(lines).line(), MixMachine.NONE);
    }

    /** The instruction in place 0 alone, from registers A and X and the word in place 100 on: done or stuck. */
    static MixMachine done(String instruction, int a, int x, int w) {
        return tried(instruction, a, x, w, 1);
    }

    static MixMachine stuck(String instruction, int a, int x, int w) {
        MixMachine m = tried(instruction, a, x, w, 0);
        same(instruction + ": stuck", m.state(4), 2);
        same(instruction + ": place", m.state(0), 0);
        same(instruction + ": A stays", m.register(0), a);
        same(instruction + ": X stays", m.register(7), x);
        same(instruction + ": word stays", m.word(100), w);
        return m;
    }

    private static MixMachine tried(String instruction, int a, int x, int w, int due) {
        MixMachine m = assembled(" ORIG 190", " LDA 198", " LDX 199", " JSJ 0", " ORIG 0", " " + instruction, " END 190");
        m.poke(198, a);
        m.poke(199, x);
        m.step(3);
        m.poke(100, w);
        same(instruction + ": steps", m.step(1), due);
        return m;
    }
}
