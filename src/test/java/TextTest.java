/** Promises 2 and 3: write and erase. */
public final class TextTest {
    public static void main(String[] args) {
        counts();
        lowestComesFirst();
        refusesWhatIsNoCharacter();
        refusesMoreThan240();
        eraseTellsHowMany();
        Check.end();
    }

    private static void counts() {
        MixMachine m = new MixMachine();
        Check.same("write 1", m.write('A', 1), 1);
        Check.same("write 3", m.write(Check.pack("ABC"), 3), 4);
        Check.same("write 8", m.write(Check.pack("ABCDEFGH"), 8), 12);
        Check.same("bytes above n do not count", m.write(0xFF00000000000000L | Check.pack("ABC"), 3), 15);
        Check.same("32", m.write(32, 1), 16);
        Check.same("126", m.write(126, 1), 17);
        Check.same("10", m.write(10, 1), 18);
    }

    private static void lowestComesFirst() {
        MixMachine m = new MixMachine();
        m.write(Check.pack(" END 7\nx"), 8);
        Check.same("start", m.assemble(), 7);
    }

    private static void refusesWhatIsNoCharacter() {
        MixMachine m = new MixMachine();
        m.write('A', 1);
        for (int n : new int[] {Integer.MIN_VALUE, -1, 0, 9, Integer.MAX_VALUE}) {
            Check.refuses("n " + n, Check.ARGUMENT, () -> m.write(Check.pack("AAAAAAAA"), n));
        }
        for (int c : new int[] {0, 9, 11, 13, 31, 127, 128, 138, 255}) {
            Check.refuses("character " + c, Check.ARGUMENT, () -> m.write(c, 1));
            Check.refuses("last of eight " + c, Check.ARGUMENT, () -> m.write((long) c << 56 | Check.pack("AAAAAAA"), 8));
        }
        Check.same("all stays", m.erase(), 1);
    }

    private static void refusesMoreThan240() {
        MixMachine m = new MixMachine();
        for (int i = 1; i <= 29; i++) {
            Check.same("write", m.write(Check.pack("ABCDEFGH"), 8), 8 * i);
        }
        m.write(Check.pack("ABCDEFG"), 7);
        Check.refuses("241", Check.STATE, () -> m.write(Check.pack("AA"), 2));
        Check.refuses("the argument first", Check.ARGUMENT, () -> m.write(0, 2));
        Check.same("240", m.write('A', 1), 240);
        Check.refuses("one more", Check.STATE, () -> m.write('A', 1));
        Check.same("240 stay", m.erase(), 240);
    }

    private static void eraseTellsHowMany() {
        MixMachine m = new MixMachine();
        m.write(Check.pack(" FOO 1"), 6);
        Check.same("erase", m.erase(), 6);
        Check.same("erase again", m.erase(), 0);
        Check.same("a text anew", m.write(Check.pack(" END 3"), 6), 6);
        Check.same("of it alone", m.assemble(), 3);
    }
}
