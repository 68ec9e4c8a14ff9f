import java.util.Arrays;
import java.util.NoSuchElementException;

/**
 * Knuth's MIX with its devices, and its assembler.
 *
 * Inside, as at the face, a word is one int: twice its magnitude, plus 1 if it is minus. So no call has to
 * turn words into another form, and minus 0 is kept.
 */
public final class MixMachine {
    public static final int NONE = -1;

    private static final int PLACES = 200;
    private static final int TEXT_LIMIT = 240;
    private static final int STEP_LIMIT = 500;
    private static final int REGISTERS = 9;

    private final int[] memory;
    private final Units units;
    private final Processor processor;
    private final Text text;
    private final Assembler assembler;

    public MixMachine() {
        memory = new int[PLACES];
        units = new Units(memory);
        processor = new Processor(memory, units);
        text = new Text();
        assembler = new Assembler(text);
    }

    public int write(long eight, int n) throws IllegalArgumentException, IllegalStateException {
        if (n < 1 || n > 8 || !Text.areCharacters(eight, n)) {
            throw new IllegalArgumentException("not 1 to 8 characters");
        }
        if (text.length + n > TEXT_LIMIT) {
            throw new IllegalStateException("the text is full");
        }
        text.append(eight, n);
        return text.length;
    }

    public int erase() {
        int had = text.length;
        text.length = 0;
        return had;
    }

    public int assemble() throws IllegalArgumentException {
        assembler.begin();
        for (int i = 0; i <= TEXT_LIMIT && assembler.wantsLine(); i++) {
            assembler.readNextLine();
        }
        int start = assembler.finish();
        assembler.copyWordsTo(memory);
        processor.goFrom(start);
        return start;
    }

    public int line() {
        return assembler.lineAtHand;
    }

    public int symbol(long name) throws NoSuchElementException {
        int value = assembler.latestSymbols.valueOf(name);
        if (value == NONE) {
            throw new NoSuchElementException("no such symbol");
        }
        return value;
    }

    public int step(int n) throws IllegalArgumentException, IllegalStateException {
        if (n < 1 || n > STEP_LIMIT) {
            throw new IllegalArgumentException("not 1 to 500 steps");
        }
        if (processor.status != Processor.GOES) {
            throw new IllegalStateException("the machine has stopped");
        }
        int before = processor.stepsDone;
        for (int i = 0; i < n && processor.status == Processor.GOES; i++) {
            processor.tryStep();
        }
        return processor.stepsDone - before;
    }

    public boolean go(int place) throws IllegalArgumentException {
        if (!isPlace(place)) {
            throw new IllegalArgumentException("no such place");
        }
        boolean hadStopped = processor.status != Processor.GOES;
        processor.goFrom(place);
        return hadStopped;
    }

    public int poke(int place, int w) throws IndexOutOfBoundsException, IllegalArgumentException {
        if (!isPlace(place)) {
            throw new IndexOutOfBoundsException("no such place");
        }
        if (w < 0) {
            throw new IllegalArgumentException("no word");
        }
        int before = memory[place];
        memory[place] = w;
        return before;
    }

    public int word(int place) throws IndexOutOfBoundsException {
        if (!isPlace(place)) {
            throw new IndexOutOfBoundsException("no such place");
        }
        return memory[place];
    }

    public int register(int r) throws IndexOutOfBoundsException {
        if (r < 0 || r >= REGISTERS) {
            throw new IndexOutOfBoundsException("no such register");
        }
        return processor.registers[r];
    }

    public int card(int a, int b, int c, int d) throws IllegalArgumentException, IllegalStateException {
        if (a < 0 || b < 0 || c < 0 || d < 0) {
            throw new IllegalArgumentException("no word");
        }
        if (units.cardCount >= Units.CARDS) {
            throw new IllegalStateException("there are six cards");
        }
        units.addCard(a, b, c, d);
        return units.cardCount;
    }

    public int printed(int k, int i) throws IndexOutOfBoundsException {
        if (k < 0 || k >= units.linesKept() || i < 0 || i >= Units.LINE_SIZE) {
            throw new IndexOutOfBoundsException("no such word of a line");
        }
        return units.printedWord(k, i);
    }

    public int tape(int block, int i) throws IndexOutOfBoundsException {
        if (block < 0 || block >= Units.BLOCKS || i < 0 || i >= Units.BLOCK_SIZE) {
            throw new IndexOutOfBoundsException("no such word of the tape");
        }
        return units.tapeWords[block * Units.BLOCK_SIZE + i];
    }

    public int state(int what) throws IndexOutOfBoundsException {
        switch (what) {
            case 0: return processor.place;
            case 1: return processor.stepsDone;
            case 2: return processor.toggle ? 1 : 0;
            case 3: return processor.indicator;
            case 4: return processor.status;
            case 5: return units.lineCount;
            case 6: return units.tapeBlock;
            case 7: return processor.stepsWaited;
            default: throw new IndexOutOfBoundsException("no such state");
        }
    }

    private static boolean isPlace(int place) {
        return place >= 0 && place < PLACES;
    }

    private static boolean arePlaces(int first, int count) {
        return first >= 0 && first <= PLACES - count;
    }

    /** Words, and their fields, which are numbers 8 L + R. */
    private static final class Words {
        static final int BYTE_BITS = 6;
        static final int BITS = 30;
        static final int LIMIT = 1 << BITS;
        static final int MASK = LIMIT - 1;
        static final int WHOLE_FIELD = 5;
        static final int ADDRESS_FIELD = 2;
        static final int ADDRESS_LIMIT = 4096;

        static int of(long value) {
            return value < 0 ? (int) -value * 2 + 1 : (int) value * 2;
        }

        static int signed(int magnitude, int minus) {
            return magnitude * 2 + minus;
        }

        static int magnitude(int w) {
            return w >>> 1;
        }

        static int minus(int w) {
            return w & 1;
        }

        static int value(int w) {
            return (w & 1) == 1 ? -(w >>> 1) : w >>> 1;
        }

        static boolean isField(long f) {
            return f >= 0 && f >> 3 <= (f & 7) && (f & 7) <= 5;
        }

        static int fieldOf(int w, int f) {
            int shift = BYTE_BITS * (5 - (f & 7));
            return signed(magnitude(w) >>> shift & lowBytes(f), f < 8 ? minus(w) : 0);
        }

        static int stored(int w, int f, int from) {
            int shift = BYTE_BITS * (5 - (f & 7));
            int bytes = lowBytes(f);
            int kept = magnitude(w) & ~(bytes << shift);
            return signed(kept | (magnitude(from) & bytes) << shift, minus(f < 8 ? from : w));
        }

        /** The mask of as many bytes as the field has: its sign, in byte 0, is none. */
        private static int lowBytes(int f) {
            int first = f < 8 ? 1 : f >> 3;
            return (1 << BYTE_BITS * ((f & 7) - first + 1)) - 1;
        }
    }

    /** The tape, the reader of cards and the printer, which each have a slot. */
    private static final class Units {
        static final int CONTROL = 35;
        static final int IN = 36;
        static final int BLOCKS = 6;
        static final int BLOCK_SIZE = 10;
        static final int CARDS = 6;
        static final int CARD_SIZE = 4;
        static final int LINES_KEPT = 8;
        static final int LINE_SIZE = 6;
        static final int TAPE = 0;
        static final int READER = 1;
        static final int PRINTER = 2;
        private static final int[] BUSY_STEPS = {4, 8, 6};

        private final int[] memory;
        private final int[] tapeWords;
        private final int[] cardWords;
        private final int[] lineWords;
        private final int[] busyUntil;
        private int tapeBlock;
        private int oldestCard;
        private int cardCount;
        private int lineCount;

        Units(int[] memory) {
            this.memory = memory;
            tapeWords = new int[BLOCKS * BLOCK_SIZE];
            cardWords = new int[CARDS * CARD_SIZE];
            lineWords = new int[LINES_KEPT * LINE_SIZE];
            busyUntil = new int[BUSY_STEPS.length];
        }

        static int slotOf(int unit) {
            switch (unit) {
                case 0: return TAPE;
                case 16: return READER;
                case 18: return PRINTER;
                default: return NONE;
            }
        }

        boolean isBusy(int slot, int stepNumber) {
            return slot != NONE && stepNumber <= busyUntil[slot];
        }

        /** Whether it was done: if not, nothing has changed. */
        boolean operate(int operation, int slot, int m, int stepNumber) {
            if (slot == NONE || !act(operation, slot, m)) {
                return false;
            }
            busyUntil[slot] = stepNumber + BUSY_STEPS[slot];
            return true;
        }

        private boolean act(int operation, int slot, int m) {
            if (operation == CONTROL) {
                return control(slot, m);
            }
            boolean in = operation == IN;
            switch (slot) {
                case TAPE: return passBlock(in, m);
                case READER: return in && readCard(m);
                default: return !in && printLine(m);
            }
        }

        private boolean control(int slot, int m) {
            if (slot == TAPE) {
                tapeBlock = m == 0 ? 0 : Math.max(0, Math.min(BLOCKS, tapeBlock + m));
            }
            return slot != READER;
        }

        private boolean passBlock(boolean in, int m) {
            if (tapeBlock >= BLOCKS || !arePlaces(m, BLOCK_SIZE)) {
                return false;
            }
            int first = tapeBlock * BLOCK_SIZE;
            if (in) {
                System.arraycopy(tapeWords, first, memory, m, BLOCK_SIZE);
            } else {
                System.arraycopy(memory, m, tapeWords, first, BLOCK_SIZE);
            }
            tapeBlock++;
            return true;
        }

        private boolean readCard(int m) {
            if (cardCount == 0 || !arePlaces(m, CARD_SIZE)) {
                return false;
            }
            System.arraycopy(cardWords, oldestCard * CARD_SIZE, memory, m, CARD_SIZE);
            oldestCard = (oldestCard + 1) % CARDS;
            cardCount--;
            return true;
        }

        private boolean printLine(int m) {
            if (!arePlaces(m, LINE_SIZE)) {
                return false;
            }
            System.arraycopy(memory, m, lineWords, lineCount % LINES_KEPT * LINE_SIZE, LINE_SIZE);
            lineCount++;
            return true;
        }

        void addCard(int a, int b, int c, int d) {
            int first = (oldestCard + cardCount) % CARDS * CARD_SIZE;
            cardWords[first] = a;
            cardWords[first + 1] = b;
            cardWords[first + 2] = c;
            cardWords[first + 3] = d;
            cardCount++;
        }

        int linesKept() {
            return Math.min(lineCount, LINES_KEPT);
        }

        int printedWord(int k, int i) {
            return lineWords[(lineCount - 1 - k) % LINES_KEPT * LINE_SIZE + i];
        }
    }

    /**
     * Registers, and instructions one by one. What does an instruction looks at all that could be stuck before
     * it changes anything, and answers whether it was done.
     */
    private static final class Processor {
        static final int GOES = 0;
        static final int HALTED = 1;
        static final int STUCK = 2;
        private static final int A = 0;
        private static final int X = 7;
        private static final int J = 8;
        private static final int LAST_INDEX = 6;
        private static final int INDEX_LIMIT = 4096;
        private static final long TEN_BYTES = (1L << 60) - 1;

        private final int[] memory;
        private final Units units;
        private final int[] registers;
        private boolean toggle;
        private int indicator;
        private int place;
        private int status;
        private int stepsDone;
        private int stepsWaited;
        private int nextPlace;
        private int operation;
        private int f;
        private int index;
        private int m;
        private int mAsWord;

        Processor(int[] memory, Units units) {
            this.memory = memory;
            this.units = units;
            registers = new int[REGISTERS];
            status = HALTED;
        }

        void goFrom(int start) {
            place = start;
            status = GOES;
        }

        void tryStep() {
            if (!isPlace(place)) {
                status = STUCK;
                return;
            }
            decode(memory[place]);
            if (mustWait()) {
                stepsWaited++;
                stepsDone++;
                return;
            }
            if (index > LAST_INDEX || !execute()) {
                status = STUCK;
                return;
            }
            place = nextPlace;
            stepsDone++;
        }

        private void decode(int w) {
            int magnitude = Words.magnitude(w);
            operation = magnitude & 63;
            f = magnitude >> 6 & 63;
            index = magnitude >> 12 & 63;
            int address = Words.fieldOf(w, Words.ADDRESS_FIELD);
            m = Words.value(address);
            mAsWord = address;
            if (index > 0 && index <= LAST_INDEX) {
                m += Words.value(registers[index]);
                mAsWord = Words.of(m);
            }
            nextPlace = place + 1;
        }

        private boolean mustWait() {
            return operation >= 35 && operation <= 37 && units.isBusy(Units.slotOf(f), stepsDone + 1);
        }

        private boolean execute() {
            if (operation <= 4) {
                return operation == 0 || calculate();
            }
            if (operation <= 7) {
                return operation == 5 ? convertOrHalt() : operation == 6 ? shift() : moveWords();
            }
            if (operation <= 23) {
                return load();
            }
            if (operation <= 33) {
                return store();
            }
            if (operation <= 38) {
                return useUnit();
            }
            if (operation <= 47) {
                return operation == 39 ? jump() : jumpByRegister();
            }
            return operation <= 55 ? changeRegister() : compare();
        }

        private boolean hasFieldInMemory() {
            return Words.isField(f) && isPlace(m);
        }

        private boolean calculate() {
            if (!hasFieldInMemory()) {
                return false;
            }
            int v = Words.fieldOf(memory[m], f);
            switch (operation) {
                case 1: addTo(A, Words.value(v)); break;
                case 2: addTo(A, -Words.value(v)); break;
                case 3: multiply(v); break;
                default: divide(v); break;
            }
            return true;
        }

        private void addTo(int r, int amount) {
            long sum = (long) Words.value(registers[r]) + amount;
            long magnitude = sum < 0 ? -sum : sum;
            boolean isIndex = r != A && r != X;
            int limit = isIndex ? INDEX_LIMIT : Words.LIMIT;
            if (magnitude >= limit && !isIndex) {
                toggle = true;
            }
            int left = (int) (magnitude & limit - 1);
            int minus = left == 0 ? Words.minus(registers[r]) : sum < 0 ? 1 : 0;
            registers[r] = Words.signed(left, minus);
        }

        private void multiply(int v) {
            int minus = Words.minus(registers[A] ^ v);
            long product = (long) Words.magnitude(registers[A]) * Words.magnitude(v);
            registers[A] = Words.signed((int) (product >> Words.BITS), minus);
            registers[X] = Words.signed((int) (product & Words.MASK), minus);
        }

        private void divide(int v) {
            int a = registers[A];
            int divisor = Words.magnitude(v);
            if (divisor == 0 || divisor <= Words.magnitude(a)) {
                toggle = true;
                return;
            }
            long dividend = bytesOfAX();
            registers[A] = Words.signed((int) (dividend / divisor), Words.minus(a ^ v));
            registers[X] = Words.signed((int) (dividend % divisor), Words.minus(a));
        }

        private long bytesOfAX() {
            return (long) Words.magnitude(registers[A]) << Words.BITS | Words.magnitude(registers[X]);
        }

        private void setBytesOfAX(long ten) {
            setMagnitude(A, (int) (ten >> Words.BITS));
            setMagnitude(X, (int) (ten & Words.MASK));
        }

        private void setMagnitude(int r, int magnitude) {
            registers[r] = Words.signed(magnitude, Words.minus(registers[r]));
        }

        private boolean convertOrHalt() {
            switch (f) {
                case 0: toNumber(); return true;
                case 1: toCharacters(); return true;
                case 2: status = HALTED; return true;
                default: return false;
            }
        }

        private void toNumber() {
            long ten = bytesOfAX();
            long number = 0;
            for (int shift = 54; shift >= 0; shift -= 6) {
                number = number * 10 + (ten >> shift & 63) % 10;
            }
            setMagnitude(A, (int) (number & Words.MASK));
        }

        private void toCharacters() {
            int rest = Words.magnitude(registers[A]);
            long ten = 0;
            for (int shift = 0; shift < 60; shift += 6) {
                ten |= (long) (30 + rest % 10) << shift;
                rest /= 10;
            }
            setBytesOfAX(ten);
        }

        private boolean shift() {
            if (m < 0 || f > 5) {
                return false;
            }
            int bitsOfA = Words.BYTE_BITS * Math.min(m, 5);
            int bits = Words.BYTE_BITS * Math.min(m, 10);
            int roundBits = Words.BYTE_BITS * (m % 10);
            long a = Words.magnitude(registers[A]);
            long ten = bytesOfAX();
            switch (f) {
                case 0: setMagnitude(A, (int) (a << bitsOfA & Words.MASK)); break;
                case 1: setMagnitude(A, (int) (a >> bitsOfA)); break;
                case 2: setBytesOfAX(ten << bits & TEN_BYTES); break;
                case 3: setBytesOfAX(ten >> bits); break;
                case 4: setBytesOfAX((ten << roundBits | ten >> 60 - roundBits) & TEN_BYTES); break;
                default: setBytesOfAX((ten >> roundBits | ten << 60 - roundBits) & TEN_BYTES); break;
            }
            return true;
        }

        private boolean moveWords() {
            if (f == 0) {
                return true;
            }
            int to = Words.value(registers[1]);
            if (!arePlaces(m, f) || !arePlaces(to, f)) {
                return false;
            }
            for (int i = 0; i < f; i++) {
                memory[to + i] = memory[m + i];
            }
            addTo(1, f);
            return true;
        }

        private boolean load() {
            if (!hasFieldInMemory()) {
                return false;
            }
            int v = Words.fieldOf(memory[m], f);
            enter(operation & 7, operation < 16 ? v : v ^ 1);
            return true;
        }

        private void enter(int r, int w) {
            boolean isIndex = r != A && r != X;
            registers[r] = isIndex ? Words.signed(Words.magnitude(w) % INDEX_LIMIT, Words.minus(w)) : w;
        }

        private boolean store() {
            if (!hasFieldInMemory()) {
                return false;
            }
            int r = operation - 24;
            memory[m] = Words.stored(memory[m], f, r <= J ? registers[r] : 0);
            return true;
        }

        private boolean useUnit() {
            int slot = Units.slotOf(f);
            if (operation >= 35 && operation <= 37) {
                return units.operate(operation, slot, m, stepsDone + 1);
            }
            boolean wantsBusy = operation == 34;
            return slot != NONE && jumpIf(units.isBusy(slot, stepsDone + 1) == wantsBusy);
        }

        private boolean jump() {
            switch (f) {
                case 0: return jumpIf(true);
                case 1: return jumpKeepingJ();
                case 2: return jumpByToggle(true);
                case 3: return jumpByToggle(false);
                default: return f <= 9 && jumpIf(holds(f - 4, indicator));
            }
        }

        private boolean jumpIf(boolean taken) {
            if (!taken) {
                return true;
            }
            int behind = nextPlace;
            if (!jumpKeepingJ()) {
                return false;
            }
            registers[J] = Words.of(behind);
            return true;
        }

        private boolean jumpKeepingJ() {
            if (!isPlace(m)) {
                return false;
            }
            nextPlace = m;
            return true;
        }

        private boolean jumpByToggle(boolean wanted) {
            if (!jumpIf(toggle == wanted)) {
                return false;
            }
            toggle = false;
            return true;
        }

        private boolean jumpByRegister() {
            return f <= 5 && jumpIf(holds(f, Words.value(registers[operation - 40])));
        }

        private static boolean holds(int condition, int value) {
            switch (condition) {
                case 0: return value < 0;
                case 1: return value == 0;
                case 2: return value > 0;
                case 3: return value >= 0;
                case 4: return value != 0;
                default: return value <= 0;
            }
        }

        private boolean changeRegister() {
            int r = operation - 48;
            switch (f) {
                case 0: addTo(r, m); return true;
                case 1: addTo(r, -m); return true;
                case 2: enter(r, mAsWord); return true;
                case 3: enter(r, mAsWord ^ 1); return true;
                default: return false;
            }
        }

        private boolean compare() {
            if (!hasFieldInMemory()) {
                return false;
            }
            int own = Words.value(Words.fieldOf(registers[operation - 56], f));
            indicator = Integer.compare(own, Words.value(Words.fieldOf(memory[m], f)));
            return true;
        }
    }

    /** The text, with a cursor that reads it line by line and, within a line, part by part. */
    private static final class Text {
        static final int NO_NAME = 0;
        static final int NUMBER = 1;
        static final int SYMBOL = 2;
        static final int HERE = 3;
        static final int BACK = 4;
        static final int FORWARD = 5;
        private static final int LONGEST_NUMBER = 9;
        private static final int LONGEST_SYMBOL = 6;

        private final char[] characters;
        private int length;
        private int at;
        private int nextLine;
        private int lineEnd;
        private int partEnd;
        private long name;
        private int nameLength;
        private int capitals;
        private int number;

        Text() {
            characters = new char[TEXT_LIMIT];
        }

        static boolean areCharacters(long eight, int n) {
            for (int i = 0; i < n; i++) {
                long c = eight >> 8 * i & 255;
                if (c != '\n' && (c < 32 || c > 126)) {
                    return false;
                }
            }
            return true;
        }

        void append(long eight, int n) {
            for (int i = 0; i < n; i++) {
                characters[length + i] = (char) (eight >> 8 * i & 255);
            }
            length += n;
        }

        void openLine() {
            at = nextLine;
            lineEnd = at;
            while (lineEnd < length && characters[lineEnd] != '\n') {
                lineEnd++;
            }
            nextLine = lineEnd + 1;
        }

        /** Whether the line at hand is nothing: spaces, or what is behind a star. */
        boolean isLineNothing() {
            if (at < lineEnd && characters[at] == '*') {
                return true;
            }
            for (int i = at; i < lineEnd; i++) {
                if (characters[i] != ' ') {
                    return false;
                }
            }
            return true;
        }

        void skipSpaces() {
            while (at < lineEnd && characters[at] == ' ') {
                at++;
            }
        }

        void openPart() {
            partEnd = at;
            while (partEnd < lineEnd && characters[partEnd] != ' ') {
                partEnd++;
            }
        }

        boolean isPartRead() {
            return at >= partEnd;
        }

        boolean take(char c) {
            if (at >= partEnd || characters[at] != c) {
                return false;
            }
            at++;
            return true;
        }

        /** The operator that was taken, or a space when there is none. */
        char takeOperator() {
            if (at >= partEnd) {
                return ' ';
            }
            char c = characters[at];
            if (c != '+' && c != '-' && c != '*' && c != '/' && c != ':') {
                return ' ';
            }
            at++;
            return c;
        }

        boolean isAPartRead() {
            return at >= partEnd || characters[at] == ',' || characters[at] == '(';
        }

        /** Takes all capitals and digits that come; what is too long for a name needs no value. */
        void readName() {
            name = 0;
            nameLength = 0;
            capitals = 0;
            number = 0;
            for (; at < partEnd; at++) {
                char c = characters[at];
                boolean isCapital = c >= 'A' && c <= 'Z';
                if (!isCapital && (c < '0' || c > '9')) {
                    return;
                }
                if (nameLength < LONGEST_SYMBOL) {
                    name |= (long) c << 8 * nameLength;
                }
                capitals += isCapital ? 1 : 0;
                number = number * 10 + (c - '0');
                nameLength++;
            }
        }

        int kindOfName() {
            if (capitals == 0) {
                return nameLength >= 1 && nameLength <= LONGEST_NUMBER ? NUMBER : NO_NAME;
            }
            if (nameLength == 2 && capitals == 1) {
                switch ((int) (name >> 8)) {
                    case 'H': return HERE;
                    case 'B': return BACK;
                    case 'F': return FORWARD;
                    default: return SYMBOL;
                }
            }
            return nameLength <= LONGEST_SYMBOL ? SYMBOL : NO_NAME;
        }

        int digitOfName() {
            return (int) (name & 255) - '0';
        }
    }

    /** Names with their values as words, or NONE for a value that is still to come. */
    private static final class Symbols {
        private static final int LIMIT = 30;

        private final long[] names;
        private final int[] values;
        private int count;

        Symbols() {
            names = new long[LIMIT];
            values = new int[LIMIT];
        }

        int valueOf(long name) {
            for (int i = 0; i < count; i++) {
                if (names[i] == name) {
                    return values[i];
                }
            }
            return NONE;
        }

        /** The symbol's index, a new one if it has not come before; NONE when there are too many. */
        int indexOf(long name) {
            for (int i = 0; i < count; i++) {
                if (names[i] == name) {
                    return i;
                }
            }
            if (count >= LIMIT) {
                return NONE;
            }
            names[count] = name;
            values[count] = NONE;
            count++;
            return count - 1;
        }

        void copyFrom(Symbols other) {
            System.arraycopy(other.names, 0, names, 0, LIMIT);
            System.arraycopy(other.values, 0, values, 0, LIMIT);
            count = other.count;
        }
    }

    /** A-parts that had to wait: for what, at which place, and by which line they came. */
    private static final class Waits {
        static final int LIMIT = 60;
        static final int FOR_DIGIT = 100;
        static final int FOR_LITERAL = 200;

        private final int[] targets;
        private final int[] places;
        private final int[] lines;
        private int count;

        Waits() {
            targets = new int[LIMIT];
            places = new int[LIMIT];
            lines = new int[LIMIT];
        }

        boolean add(int target, int place, int line) {
            if (count >= LIMIT) {
                return false;
            }
            targets[count] = target;
            places[count] = place;
            lines[count] = line;
            count++;
            return true;
        }

        boolean isDigitAwaited() {
            for (int i = 0; i < count; i++) {
                if (targets[i] >= FOR_DIGIT && targets[i] < FOR_LITERAL) {
                    return true;
                }
            }
            return false;
        }
    }

    /** What a line may tell to do: its name, where ? is a register's, its code and the F that it has by itself. */
    private enum Operation {
        NOP("NOP", 0, 0), ADD("ADD", 1, 5), SUB("SUB", 2, 5), MUL("MUL", 3, 5), DIV("DIV", 4, 5),
        NUM("NUM", 5, 0), CHAR("CHAR", 5, 1), HLT("HLT", 5, 2),
        SLA("SLA", 6, 0), SRA("SRA", 6, 1), SLAX("SLAX", 6, 2), SRAX("SRAX", 6, 3), SLC("SLC", 6, 4), SRC("SRC", 6, 5),
        MOVE("MOVE", 7, 1), LD("LD?", 8, 5), LDN("LD?N", 16, 5), ST("ST?", 24, 5), STJ("STJ", 32, 2), STZ("STZ", 33, 5),
        JBUS("JBUS", 34, 0), IOC("IOC", 35, 0), IN("IN", 36, 0), OUT("OUT", 37, 0), JRED("JRED", 38, 0),
        JMP("JMP", 39, 0), JSJ("JSJ", 39, 1), JOV("JOV", 39, 2), JNOV("JNOV", 39, 3), JL("JL", 39, 4),
        JE("JE", 39, 5), JG("JG", 39, 6), JGE("JGE", 39, 7), JNE("JNE", 39, 8), JLE("JLE", 39, 9),
        JN("J?N", 40, 0), JZ("J?Z", 40, 1), JP("J?P", 40, 2),
        JNN("J?NN", 40, 3), JNZ("J?NZ", 40, 4), JNP("J?NP", 40, 5),
        INC("INC?", 48, 0), DEC("DEC?", 48, 1), ENT("ENT?", 48, 2), ENN("ENN?", 48, 3), CMP("CMP?", 56, 5),
        EQU("EQU", 64, 0), ORIG("ORIG", 64, 0), CON("CON", 64, 0), END("END", 64, 0);

        private static final String REGISTER_NAMES = "A123456X";
        private static final Operation[] ALL = values();

        private final String pattern;
        private final int code;
        private final int f;

        Operation(String pattern, int code, int f) {
            this.pattern = pattern;
            this.code = code;
            this.f = f;
        }

        boolean isInstruction() {
            return code < 64;
        }

        boolean tellsF() {
            return code == 5 || code == 6 || code >= 39 && code <= 55;
        }

        /** The code that the name stands for, with its register; NONE when it is another operation's name. */
        int codeOf(long name) {
            int register = 0;
            for (int i = 0; i < pattern.length(); i++) {
                char wanted = pattern.charAt(i);
                char c = (char) (name >> 8 * i & 255);
                if (wanted == '?') {
                    register = REGISTER_NAMES.indexOf(c);
                } else if (c != wanted) {
                    return NONE;
                }
            }
            boolean isWhole = name >> 8 * pattern.length() == 0;
            return isWhole && register >= 0 ? code + register : NONE;
        }
    }

    /**
     * Turns the text into words. All is done in rows of its own until the text has shown to be right, so that
     * a throw leaves the machine as it was; lineAtHand is the wrong line then.
     */
    private static final class Assembler {
        private static final int LITERALS = 20;
        private static final int DIGITS = 10;
        private static final int NO_LABEL = Text.NO_NAME;

        private final Text text;
        private final Symbols symbols;
        private final Symbols latestSymbols;
        private final Waits waits;
        private final int[] words;
        private final int[] literals;
        private final int[] latestHere;
        private int literalCount;
        private int place;
        private int start;
        private boolean ended;
        private int lineAtHand;
        private int labelKind;
        private int labelSymbol;
        private int labelDigit;
        private Operation operation;
        private int code;
        private int awaited;

        Assembler(Text text) {
            this.text = text;
            symbols = new Symbols();
            latestSymbols = new Symbols();
            waits = new Waits();
            words = new int[PLACES];
            literals = new int[LITERALS];
            latestHere = new int[DIGITS];
            operation = Operation.NOP;
            lineAtHand = NONE;
        }

        void begin() {
            text.nextLine = 0;
            symbols.count = 0;
            waits.count = 0;
            literalCount = 0;
            place = 0;
            ended = false;
            lineAtHand = 0;
            Arrays.fill(words, NONE);
            Arrays.fill(latestHere, NONE);
        }

        boolean wantsLine() {
            return !ended && text.nextLine <= text.length;
        }

        void readNextLine() {
            lineAtHand++;
            text.openLine();
            if (text.isLineNothing()) {
                return;
            }
            readLabel();
            readOperation();
            checkLabel();
            int value = Words.of(place);
            if (labelKind == Text.SYMBOL && operation != Operation.EQU) {
                giveValue(labelSymbol, value);
            }
            if (operation.isInstruction()) {
                readInstruction();
            } else {
                int w = readDirective();
                value = operation == Operation.EQU ? w : value;
            }
            if (labelKind == Text.HERE) {
                // only now, as B and F of this line do not mean its own H
                fillIn(Waits.FOR_DIGIT + labelDigit, value);
                latestHere[labelDigit] = value;
            }
        }

        private void readLabel() {
            text.openPart();
            labelKind = NO_LABEL;
            if (text.isPartRead()) {
                return;
            }
            text.readName();
            labelKind = text.kindOfName();
            if (!text.isPartRead() || labelKind != Text.SYMBOL && labelKind != Text.HERE) {
                throw new IllegalArgumentException("no label");
            }
            if (labelKind == Text.HERE) {
                labelDigit = text.digitOfName();
                return;
            }
            labelSymbol = symbolAtHand();
            if (symbols.values[labelSymbol] != NONE) {
                throw new IllegalArgumentException("a label that has a value");
            }
        }

        private int symbolAtHand() {
            int index = symbols.indexOf(text.name);
            if (index == NONE) {
                throw new IllegalArgumentException("too many symbols");
            }
            return index;
        }

        private void readOperation() {
            text.skipSpaces();
            text.openPart();
            text.readName();
            code = NONE;
            for (int i = 0; i < Operation.ALL.length && code == NONE; i++) {
                operation = Operation.ALL[i];
                code = operation.codeOf(text.name);
            }
            if (code == NONE || !text.isPartRead()) {
                throw new IllegalArgumentException("no operation");
            }
            text.skipSpaces();
            text.openPart();
        }

        /** Before the label has a value, as that could show a line above to be wrong. */
        private void checkLabel() {
            boolean isMissing = operation == Operation.EQU && labelKind == NO_LABEL;
            boolean isTooMuch = operation == Operation.END && labelKind != NO_LABEL;
            if (isMissing || isTooMuch) {
                throw new IllegalArgumentException("EQU without a label, or END with one");
            }
        }

        /** Does what EQU, ORIG, CON or END asks, and answers its word. */
        private int readDirective() {
            int w = readW();
            if (!text.isPartRead()) {
                throw new IllegalArgumentException("more than a W");
            }
            if (operation == Operation.EQU) {
                equate(w);
            } else if (operation == Operation.ORIG) {
                place = Words.value(w);
            } else if (operation == Operation.CON) {
                put(w);
            } else {
                end(w);
            }
            return w;
        }

        private void equate(int w) {
            if (labelKind == Text.SYMBOL) {
                giveValue(labelSymbol, w);
            }
        }

        private void end(int w) {
            start = Words.value(w);
            if (!isPlace(start)) {
                throw new IllegalArgumentException("no start");
            }
            ended = true;
        }

        private void readInstruction() {
            int address = readAPart();
            int index = text.take(',') ? readUpTo(6) : 0;
            int f = operation.f;
            if (!operation.tellsF() && text.take('(')) {
                f = readUpTo(63);
                if (!text.take(')')) {
                    throw new IllegalArgumentException("an F that does not end");
                }
            }
            if (!text.isPartRead()) {
                throw new IllegalArgumentException("more than an address part");
            }
            int at = place;
            put(Words.stored(Words.signed(index << 12 | f << 6 | code, 0), Words.ADDRESS_FIELD, address));
            if (awaited != NONE && !waits.add(awaited, at, lineAtHand)) {
                throw new IllegalArgumentException("too many that wait");
            }
        }

        private int readUpTo(int most) {
            long value = readExpression();
            if (value < 0 || value > most) {
                throw new IllegalArgumentException("no index, or no F");
            }
            return (int) value;
        }

        /** The address as a word; plus 0 when it has to wait, and awaited tells then for what. */
        private int readAPart() {
            awaited = NONE;
            if (text.isAPartRead()) {
                return 0;
            }
            if (text.take('=')) {
                readLiteral(readW());
                return 0;
            }
            int from = text.at;
            text.readName();
            if (text.isAPartRead() && isToCome()) {
                return 0;
            }
            text.at = from;
            long value = readExpression();
            if (value <= -Words.ADDRESS_LIMIT || value >= Words.ADDRESS_LIMIT) {
                throw new IllegalArgumentException("no address");
            }
            return Words.of(value);
        }

        private void readLiteral(int w) {
            if (!text.take('=') || literalCount >= LITERALS) {
                throw new IllegalArgumentException("a literal that does not end, or too many");
            }
            literals[literalCount] = w;
            awaited = Waits.FOR_LITERAL + literalCount;
            literalCount++;
        }

        private boolean isToCome() {
            int kind = text.kindOfName();
            if (kind == Text.FORWARD) {
                awaited = Waits.FOR_DIGIT + text.digitOfName();
            } else if (kind == Text.SYMBOL && symbols.valueOf(text.name) == NONE) {
                awaited = symbolAtHand();
            }
            return awaited != NONE;
        }

        private int readW() {
            int w = 0;
            boolean more = true;
            for (int i = 0; i < TEXT_LIMIT && more; i++) {
                int value = Words.of(readExpression());
                long f = Words.WHOLE_FIELD;
                if (text.take('(')) {
                    f = readExpression();
                    if (!Words.isField(f) || !text.take(')')) {
                        throw new IllegalArgumentException("no field");
                    }
                }
                w = Words.stored(w, (int) f, value);
                more = text.take(',');
            }
            return w;
        }

        private long readExpression() {
            boolean isNegated = text.take('-');
            if (!isNegated) {
                text.take('+');
            }
            long value = readAtom();
            value = isNegated ? -value : value;
            for (int i = 0; i < TEXT_LIMIT; i++) {
                char operator = text.takeOperator();
                if (operator == ' ') {
                    return value;
                }
                value = combine(value, operator, readAtom());
            }
            return value;
        }

        private static long combine(long left, char operator, long right) {
            if (operator == '/' && right == 0) {
                throw new IllegalArgumentException("divided by 0");
            }
            long value;
            switch (operator) {
                case '+': value = left + right; break;
                case '-': value = left - right; break;
                case '*': value = left * right; break;
                case '/': value = left / right; break;
                default: value = 8 * left + right; break;
            }
            if (value <= -Words.LIMIT || value >= Words.LIMIT) {
                throw new IllegalArgumentException("too great");
            }
            return value;
        }

        private long readAtom() {
            if (text.take('*')) {
                return place;
            }
            text.readName();
            int kind = text.kindOfName();
            if (kind == Text.NUMBER) {
                return text.number;
            }
            int w = NONE;
            if (kind == Text.BACK) {
                w = latestHere[text.digitOfName()];
            } else if (kind == Text.SYMBOL) {
                w = symbols.valueOf(text.name);
            }
            if (w == NONE) {
                throw new IllegalArgumentException("no atom");
            }
            return Words.value(w);
        }

        private void put(int w) {
            if (!isPlace(place)) {
                throw new IllegalArgumentException("no place");
            }
            words[place] = w;
            place++;
        }

        private void giveValue(int symbol, int value) {
            symbols.values[symbol] = value;
            fillIn(symbol, value);
        }

        private void fillIn(int target, int value) {
            for (int i = 0; i < waits.count; i++) {
                boolean isMeant = waits.targets[i] == target && waits.lines[i] != lineAtHand;
                if (isMeant && Words.magnitude(value) >= Words.ADDRESS_LIMIT) {
                    lineAtHand = waits.lines[i];
                    throw new IllegalArgumentException("no address");
                }
                if (isMeant) {
                    int at = waits.places[i];
                    words[at] = Words.stored(words[at], Words.ADDRESS_FIELD, value);
                    waits.targets[i] = NONE;
                }
            }
        }

        /** What END has still to do; the start, when all was right. */
        int finish() {
            if (!ended) {
                lineAtHand++;
                throw new IllegalArgumentException("no END");
            }
            if (waits.isDigitAwaited()) {
                throw new IllegalArgumentException("no H for an F");
            }
            placeSymbols();
            placeLiterals();
            latestSymbols.copyFrom(symbols);
            lineAtHand = NONE;
            return start;
        }

        private void placeSymbols() {
            for (int i = 0; i < symbols.count; i++) {
                if (symbols.values[i] == NONE) {
                    giveValue(i, Words.of(place));
                    put(0);
                }
            }
        }

        private void placeLiterals() {
            for (int i = 0; i < literalCount; i++) {
                fillIn(Waits.FOR_LITERAL + i, Words.of(place));
                put(literals[i]);
            }
        }

        void copyWordsTo(int[] memory) {
            for (int i = 0; i < PLACES; i++) {
                if (words[i] != NONE) {
                    memory[i] = words[i];
                }
            }
        }
    }
}
