/** Promise 1: all as at first, stopped at place 0. */
public final class NewObjectTest {
    public static void main(String[] args) {
        Check.sentence("All as at first; stopped at place 0.");
        MixMachine m = new MixMachine();
        Check.same("NONE", MixMachine.NONE, -1);
        for (int place = 0; place < 200; place++) {
            Check.same("word " + place, m.word(place), 0);
        }
        for (int r = 0; r <= 8; r++) {
            Check.same("register " + r, m.register(r), 0);
        }
        for (int block = 0; block < 6; block++) {
            for (int i = 0; i < 10; i++) {
                Check.same("tape " + block + " " + i, m.tape(block, i), 0);
            }
        }
        int[] due = {0, 0, 0, 0, 1, 0, 0, 0};
        for (int what = 0; what < due.length; what++) {
            Check.same("state " + what, m.state(what), due[what]);
        }
        Check.same("line", m.line(), MixMachine.NONE);
        Check.same("erase", m.erase(), 0);
        Check.refuses("printed", Check.BOUNDS, () -> m.printed(0, 0));
        Check.refuses("symbol", Check.ELEMENT, () -> m.symbol(Check.pack("A")));
        Check.refuses("step", Check.STATE, () -> m.step(1));
        Check.same("cards", m.card(1, 2, 3, 4), 1);
        twoAreApart(m);
        Check.end();
    }

    private static void twoAreApart(MixMachine m) {
        MixMachine other = new MixMachine();
        m.poke(7, 9);
        m.write('A', 1);
        Check.same("another's word", other.word(7), 0);
        Check.same("another's text", other.erase(), 0);
    }
}
