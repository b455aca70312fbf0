import java.util.Arrays;

/**
 * Holds a program of a small processor, runs it in order or ahead of its branches, finds what a wrong
 * guess may leak, and writes the program anew with the fewest fences that stop it.
 */
public final class GuessFences {
    public static final int NONE = -1;

    private static final int MOST_WORDS = 520;
    private static final int MOST_PLACES = 2 * MOST_WORDS;
    private static final int LONGS = (MOST_PLACES + 63) / 64;
    private static final int MOST_TIMES = 1000;
    private static final int MOST_WINDOW = 64;
    private static final int FIRST_WINDOW = 16;
    private static final int REGISTERS = 32;
    private static final int BYTES = 256;
    private static final int WORD_BYTES = 4;
    private static final long LOW_32 = 0xFFFFFFFFL;

    private static final int REG = 0;
    private static final int IMM = 1;
    private static final int UPPER = 2;
    private static final int LOAD = 3;
    private static final int STORE = 4;
    private static final int BRANCH = 5;
    private static final int JUMP = 6;
    private static final int FENCE = 7;
    private static final int HALT = 8;

    private static final int MAY_RUN_ON_GUESS = 1;
    private static final int TAINTED = 2;
    private static final int EXPOSED = 4;
    private static final int OF_THE_CUT = 8;

    private final int[] words = new int[MOST_PLACES];
    private final Listing listing = new Listing();
    private final Machine machine = new Machine(listing);
    private final Reach reach = new Reach(listing);
    private final Taint taint = new Taint(listing, reach);
    private final Cut smallestCut = new Cut(listing, reach, taint);
    private final Rewriter rewriter = new Rewriter(listing, taint);
    private int size = 0;
    private int faultPlace = NONE;
    private boolean loaded = false;
    private boolean studied = false;
    private boolean rewritten = false;

    public GuessFences() {
    }

    public int word(int w) {
        if (size >= MOST_WORDS) {
            return NONE;
        }
        words[size] = w;
        size++;
        noteNewWords();
        return size;
    }

    public int again(int many, int times) throws IllegalArgumentException {
        if (many < 1 || many > size || times < 1) {
            throw new IllegalArgumentException();
        }
        long total = size + (long) many * times;
        if (total > MOST_WORDS) {
            return NONE;
        }
        for (int i = size; i < total; i++) {
            words[i] = words[i - many];
        }
        size = (int) total;
        noteNewWords();
        return size;
    }

    public int clear() {
        int before = size;
        size = 0;
        noteNewWords();
        return before;
    }

    public long wordAt(int i) {
        return hasWord(i) ? words[i] & LOW_32 : NONE;
    }

    public int load() {
        return takeUp();
    }

    public int faultAt() {
        return faultPlace;
    }

    public int decoded(int place, int what)
            throws IllegalStateException, IndexOutOfBoundsException, IllegalArgumentException {
        needLoaded();
        needWord(place);
        if (what < 0 || what > 5) {
            throw new IllegalArgumentException();
        }
        return listing.part(place, what);
    }

    public void set(int register, int v) throws IllegalStateException, IllegalArgumentException {
        needLoaded();
        needAllResolved();
        if (register < 1 || register >= REGISTERS) {
            throw new IllegalArgumentException();
        }
        machine.put(register, v);
    }

    public int register(int register) throws IllegalStateException, IllegalArgumentException {
        needLoaded();
        if (register < 0 || register >= REGISTERS) {
            throw new IllegalArgumentException();
        }
        return machine.value(register);
    }

    public void poke(int address, int v) throws IllegalStateException {
        needLoaded();
        needAllResolved();
        machine.write(address, WORD_BYTES, v);
    }

    public int peek(int address) throws IllegalStateException {
        needLoaded();
        return machine.read(address, WORD_BYTES);
    }

    public int run(int times) throws IllegalStateException, IllegalArgumentException {
        needLoaded();
        needAllResolved();
        if (times < 0 || times > MOST_TIMES) {
            throw new IllegalArgumentException();
        }
        return machine.runInOrder(times);
    }

    public int order(int order) throws IllegalStateException, IllegalArgumentException {
        needLoaded();
        if (order < 0 || order > 3) {
            throw new IllegalArgumentException();
        }
        return machine.obey(order);
    }

    public int window(int window) throws IllegalArgumentException {
        if (window < 1 || window > MOST_WINDOW) {
            throw new IllegalArgumentException();
        }
        int before = machine.window;
        machine.window = window;
        return before;
    }

    public int state(int what) throws IllegalStateException, IllegalArgumentException {
        needLoaded();
        if (what < 0 || what > 3) {
            throw new IllegalArgumentException();
        }
        return machine.figure(what);
    }

    public long leak(int i) {
        return loaded ? machine.leaks.pair(i) : NONE;
    }

    public int forget() throws IllegalStateException {
        needLoaded();
        return machine.leaks.drop();
    }

    public int check() throws IllegalStateException {
        needLoaded();
        study();
        return taint.exposed;
    }

    public boolean reaches(int from, int to) throws IllegalStateException, IndexOutOfBoundsException {
        needLoaded();
        needWord(from);
        needWord(to);
        reach.trace(from);
        return reach.has(from, to);
    }

    public int mark(int place) throws IllegalStateException, IndexOutOfBoundsException {
        needLoaded();
        needWord(place);
        study();
        return taint.marks[place];
    }

    public int cut() throws IllegalStateException {
        needLoaded();
        study();
        return smallestCut.results;
    }

    public int rewrite() throws IllegalStateException {
        needLoaded();
        study();
        if (!rewriter.plan(size + smallestCut.results)) {
            return NONE;
        }
        size = rewriter.writeOver(words);
        rewritten = true;
        takeUp();
        return size;
    }

    public int home(int i) throws IndexOutOfBoundsException {
        needWord(i);
        return rewritten ? rewriter.homes[i] : i;
    }

    private boolean hasWord(int i) {
        return i >= 0 && i < size;
    }

    private void needWord(int i) {
        if (!hasWord(i)) {
            throw new IndexOutOfBoundsException();
        }
    }

    private void needLoaded() {
        if (!loaded) {
            throw new IllegalStateException();
        }
    }

    private void needAllResolved() {
        if (machine.guesses.open > 0) {
            throw new IllegalStateException();
        }
    }

    private void noteNewWords() {
        loaded = false;
        rewritten = false;
    }

    /** Answers the first fault, or 0 when the machine stands ready at the first word. */
    private int takeUp() {
        loaded = false;
        faultPlace = NONE;
        for (int i = 0; i < size; i++) {
            int fault = Word.fault(words[i], i, size);
            if (fault != 0) {
                faultPlace = i;
                return fault;
            }
            listing.put(i, words[i]);
        }
        listing.size = size;
        machine.begin();
        reach.dropRows();
        studied = false;
        loaded = true;
        return 0;
    }

    /** Flow depends on the words alone, so one study serves until the next load. */
    private void study() {
        if (studied) {
            return;
        }
        taint.spread();
        smallestCut.find();
        studied = true;
    }

    /** The parts of a word, and which kind or fault they make. */
    private static final class Word {
        private static final int FENCE_WORD = 267386895;
        private static final int HALT_WORD = 115;
        private static final int LEAST_BRANCH = -4096;
        private static final int MOST_BRANCH = 4094;

        static int code(int w) {
            return w & 127;
        }

        static int d(int w) {
            return w >>> 7 & 31;
        }

        static int f(int w) {
            return w >>> 12 & 7;
        }

        static int a(int w) {
            return w >>> 15 & 31;
        }

        static int b(int w) {
            return w >>> 20 & 31;
        }

        static int g(int w) {
            return w >>> 25;
        }

        static int i(int w) {
            return w >> 20;
        }

        static int storeNumber(int w) {
            return w >> 25 << 5 | d(w);
        }

        static int offset(int w) {
            return code(w) == 99 ? branchOffset(w) : jumpOffset(w);
        }

        static int branchOffset(int w) {
            return w >> 31 << 12 | (w >>> 7 & 1) << 11 | (w >>> 25 & 63) << 5 | (w >>> 8 & 15) << 1;
        }

        static int jumpOffset(int w) {
            return w >> 31 << 20 | w & 0xFF000 | (w >>> 20 & 1) << 11 | (w >>> 21 & 1023) << 1;
        }

        static int withBranchOffset(int w, int offset) {
            int rest = w & 0x01FFF07F;
            int upper = (offset >>> 12 & 1) << 31 | (offset >>> 5 & 63) << 25;
            int lower = (offset >>> 1 & 15) << 8 | (offset >>> 11 & 1) << 7;
            return rest | upper | lower;
        }

        static int withJumpOffset(int w, int offset) {
            int rest = w & 0xFFF;
            int upper = (offset >>> 20 & 1) << 31 | (offset >>> 1 & 1023) << 21;
            int lower = (offset >>> 11 & 1) << 20 | offset & 0xFF000;
            return rest | upper | lower;
        }

        static boolean isBranchOffset(int offset) {
            return offset >= LEAST_BRANCH && offset <= MOST_BRANCH;
        }

        static int kind(int w) {
            int f = f(w);
            switch (code(w)) {
                case 51:
                    return isRegForm(f, g(w)) ? REG : NONE;
                case 19:
                    return isImmForm(f, g(w)) ? IMM : NONE;
                case 55:
                    return UPPER;
                case 3:
                    return f <= 2 || f == 4 || f == 5 ? LOAD : NONE;
                case 35:
                    return f <= 2 ? STORE : NONE;
                case 99:
                    return f != 2 && f != 3 ? BRANCH : NONE;
                case 111:
                    return d(w) == 0 ? JUMP : NONE;
                case 15:
                    return f == 0 ? FENCE : NONE;
                default:
                    return w == HALT_WORD ? HALT : NONE;
            }
        }

        static boolean isRegForm(int f, int g) {
            return g == 0 || g == 1 || g == 32 && (f == 0 || f == 5);
        }

        static boolean isImmForm(int f, int g) {
            if (f == 1) {
                return g == 0;
            }
            return f != 5 || g == 0 || g == 32;
        }

        static int fault(int w, int place, int end) {
            int code = code(w);
            if (code == 103) {
                return 1;
            }
            if (code == 23) {
                return 2;
            }
            if (code == 111 && d(w) != 0) {
                return 3;
            }
            int kind = kind(w);
            if (kind == NONE) {
                return 4;
            }
            boolean goes = kind == BRANCH || kind == JUMP;
            return goes && !goesInside(place, offset(w), end) ? 5 : 0;
        }

        static boolean goesInside(int place, int offset, int end) {
            int target = place + (offset >> 2);
            return (offset & 3) == 0 && target >= 0 && target <= end;
        }
    }

    /** The decoded program, a row for each part of its instructions. */
    private static final class Listing {
        private final int[] kind = new int[MOST_PLACES];
        private final int[] operation = new int[MOST_PLACES];
        private final int[] result = new int[MOST_PLACES];
        private final int[] first = new int[MOST_PLACES];
        private final int[] second = new int[MOST_PLACES];
        private final int[] number = new int[MOST_PLACES];
        private final int[] target = new int[MOST_PLACES];
        private int size = 0;

        void put(int place, int w) {
            int kindHere = Word.kind(w);
            boolean usesBoth = kindHere == REG || kindHere == STORE || kindHere == BRANCH;
            boolean usesFirst = usesBoth || kindHere == IMM || kindHere == LOAD;
            boolean goes = kindHere == BRANCH || kindHere == JUMP;
            kind[place] = kindHere;
            operation[place] = operationOf(kindHere, w);
            // Register 0 never changes, so 0 may stand for having no result.
            result[place] = kindHere <= LOAD ? Word.d(w) : 0;
            first[place] = usesFirst ? Word.a(w) : NONE;
            second[place] = usesBoth ? Word.b(w) : NONE;
            number[place] = numberOf(kindHere, w);
            target[place] = goes ? place + (Word.offset(w) >> 2) : NONE;
        }

        private static int operationOf(int kind, int w) {
            int f = Word.f(w);
            int g = Word.g(w);
            if (kind == REG && g == 1) {
                return Arithmetic.MUL + f;
            }
            if (kind == REG && g == 32 && f == 0) {
                return Arithmetic.SUB;
            }
            boolean keepsSign = f == 5 && g == 32;
            return keepsSign && (kind == REG || kind == IMM) ? Arithmetic.SRA : f;
        }

        private static int numberOf(int kind, int w) {
            switch (kind) {
                case IMM:
                    return Word.f(w) == 1 || Word.f(w) == 5 ? Word.b(w) : Word.i(w);
                case UPPER:
                    return w & 0xFFFFF000;
                case LOAD:
                    return Word.i(w);
                case STORE:
                    return Word.storeNumber(w);
                default:
                    return 0;
            }
        }

        int part(int place, int what) {
            switch (what) {
                case 0:
                    return kind[place];
                case 1:
                    return result[place] == 0 ? NONE : result[place];
                case 2:
                    return first[place];
                case 3:
                    return second[place];
                case 4:
                    return number[place];
                default:
                    return target[place];
            }
        }

        boolean isAt(int place, int wanted) {
            return place >= 0 && place < size && kind[place] == wanted;
        }

        boolean isDivision(int place) {
            return kind[place] == REG && Arithmetic.divides(operation[place]);
        }

        boolean uses(int place, int register) {
            return first[place] == register || second[place] == register;
        }

        boolean betrays(int place, int register) {
            if (kind[place] == LOAD || kind[place] == STORE) {
                return first[place] == register;
            }
            return (kind[place] == BRANCH || isDivision(place)) && uses(place, register);
        }

        boolean handsOn(int place) {
            return (kind[place] == REG || kind[place] == IMM) && result[place] != 0;
        }

        /** The next instruction behind, NONE if there is none there or the way never goes there. */
        int nextBehind(int place) {
            boolean leaves = kind[place] == JUMP || kind[place] == HALT;
            return leaves || place + 1 >= size ? NONE : place + 1;
        }

        /** The next instruction at the target; the end is no instruction. */
        int nextAside(int place) {
            return target[place] < size ? target[place] : NONE;
        }
    }

    /** What the operations of REG and IMM answer. */
    private static final class Arithmetic {
        private static final int ADD = 0;
        private static final int SLL = 1;
        private static final int SLT = 2;
        private static final int SLTU = 3;
        private static final int XOR = 4;
        private static final int SRL = 5;
        private static final int OR = 6;
        private static final int AND = 7;
        private static final int MUL = 8;
        private static final int MULH = 9;
        private static final int MULHSU = 10;
        private static final int MULHU = 11;
        private static final int DIV = 12;
        private static final int DIVU = 13;
        private static final int REM = 14;
        private static final int REMU = 15;
        private static final int SUB = 16;
        private static final int SRA = 17;

        static boolean divides(int operation) {
            return operation >= DIV && operation <= REMU;
        }

        static int answer(int operation, int a, int b) {
            if (operation >= MUL && operation <= MULHU) {
                return product(operation, a, b);
            }
            if (divides(operation)) {
                return quotient(operation, a, b);
            }
            switch (operation) {
                case ADD:
                    return a + b;
                case SUB:
                    return a - b;
                case SLL:
                    return a << (b & 31);
                case SRL:
                    return a >>> (b & 31);
                case SRA:
                    return a >> (b & 31);
                case SLT:
                    return a < b ? 1 : 0;
                case SLTU:
                    return lessUnsigned(a, b) ? 1 : 0;
                case XOR:
                    return a ^ b;
                case OR:
                    return a | b;
                case AND:
                    return a & b;
                default:
                    return 0;
            }
        }

        private static int product(int operation, int a, int b) {
            switch (operation) {
                case MULH:
                    return (int) ((long) a * b >> 32);
                case MULHSU:
                    return (int) (a * (b & LOW_32) >> 32);
                case MULHU:
                    return (int) ((a & LOW_32) * (b & LOW_32) >> 32);
                default:
                    return a * b;
            }
        }

        /** Longs hold every quotient, -2147483648 by -1 too, which the cast then wraps. */
        private static int quotient(int operation, int a, int b) {
            boolean signed = operation != DIVU && operation != REMU;
            long upper = signed ? a : a & LOW_32;
            long lower = signed ? b : b & LOW_32;
            boolean rest = operation == REM || operation == REMU;
            if (lower == 0) {
                return rest ? a : -1;
            }
            return (int) (rest ? upper % lower : upper / lower);
        }

        static boolean lessUnsigned(int a, int b) {
            return (a & LOW_32) < (b & LOW_32);
        }

        static boolean holds(int comparison, int a, int b) {
            switch (comparison) {
                case 0:
                    return a == b;
                case 1:
                    return a != b;
                case 4:
                    return a < b;
                case 5:
                    return a >= b;
                case 6:
                    return lessUnsigned(a, b);
                default:
                    return !lessUnsigned(a, b);
            }
        }
    }

    /** The row of pairs that leaked. */
    private static final class Leaks {
        private static final int MOST = 2048;
        private static final int GOING = 0;
        private static final int LOADING = 1;
        private static final int STORING = 2;
        private static final int DIVIDEND = 3;
        private static final int DIVISOR = 4;

        private final long[] pairs = new long[MOST];
        private int count = 0;

        /** A division leaks two pairs, so there is room only while two more fit. */
        boolean hasRoom() {
            return count <= MOST - 2;
        }

        void add(int sort, int number) {
            if (count < MOST) {
                pairs[count] = (long) sort << 32 | number & LOW_32;
                count++;
            }
        }

        long pair(int i) {
            return i >= 0 && i < count ? pairs[i] : NONE;
        }

        int drop() {
            int before = count;
            count = 0;
            return before;
        }
    }

    /** The unresolved branches, oldest first, each with what a wrong guess rolls back to. */
    private static final class Guesses {
        private static final int MOST = 16;

        private final int[] registers = new int[MOST * REGISTERS];
        private final byte[] memory = new byte[MOST * BYTES];
        private final int[] went = new int[MOST];
        private final int[] ought = new int[MOST];
        private final int[] stepsThen = new int[MOST];
        private int oldest = 0;
        private int open = 0;
        private int steps = 0;

        void drop() {
            oldest = 0;
            open = 0;
            steps = 0;
        }

        int distance() {
            return open == 0 ? 0 : steps - stepsThen[oldest];
        }

        void countStep() {
            steps++;
        }

        boolean isFull() {
            return open >= MOST;
        }

        void add(int goesTo, int oughtToGo, int[] registersNow, byte[] memoryNow) {
            int slot = (oldest + open) % MOST;
            steps++;
            stepsThen[slot] = steps;
            went[slot] = goesTo;
            ought[slot] = oughtToGo;
            System.arraycopy(registersNow, 0, registers, slot * REGISTERS, REGISTERS);
            System.arraycopy(memoryNow, 0, memory, slot * BYTES, BYTES);
            open++;
        }

        boolean oldestIsRight() {
            return went[oldest] == ought[oldest];
        }

        int oldestOught() {
            return ought[oldest];
        }

        void closeOldest() {
            oldest = (oldest + 1) % MOST;
            open--;
        }

        void rollBack(int[] registersNow, byte[] memoryNow) {
            System.arraycopy(registers, oldest * REGISTERS, registersNow, 0, REGISTERS);
            System.arraycopy(memory, oldest * BYTES, memoryNow, 0, BYTES);
            drop();
        }
    }

    /** The processor itself, in order and on a guess. */
    private static final class Machine {
        private final Listing listing;
        private final int[] registers = new int[REGISTERS];
        private final byte[] memory = new byte[BYTES];
        private final Leaks leaks = new Leaks();
        private final Guesses guesses = new Guesses();
        private int place = 0;
        private int window = FIRST_WINDOW;

        Machine(Listing listing) {
            this.listing = listing;
        }

        void begin() {
            Arrays.fill(registers, 0);
            Arrays.fill(memory, (byte) 0);
            leaks.drop();
            guesses.drop();
            place = 0;
        }

        int figure(int what) {
            switch (what) {
                case 0:
                    return place;
                case 1:
                    return guesses.open;
                case 2:
                    return guesses.distance();
                default:
                    return leaks.count;
            }
        }

        int value(int register) {
            return register > 0 && register < REGISTERS ? registers[register] : 0;
        }

        void put(int register, int v) {
            if (register > 0 && register < REGISTERS) {
                registers[register] = v;
            }
        }

        /** The address is rounded down to a multiple of the bytes, which are 1, 2 or 4. */
        int read(int address, int bytes) {
            int start = address & BYTES - bytes;
            int v = 0;
            for (int i = bytes - 1; i >= 0; i--) {
                v = v << 8 | memory[start + i] & 255;
            }
            return v;
        }

        void write(int address, int bytes, int v) {
            int start = address & BYTES - bytes;
            for (int i = 0; i < bytes; i++) {
                memory[start + i] = (byte) (v >>> 8 * i);
            }
        }

        int runInOrder(int times) {
            int done = 0;
            while (done < times && canRun()) {
                step();
                done++;
            }
            return done;
        }

        int obey(int order) {
            switch (order) {
                case 0:
                    return runAhead();
                case 1:
                    return guess(false);
                case 2:
                    return guess(true);
                default:
                    return resolve();
            }
        }

        private boolean canRun() {
            return place >= 0 && place < listing.size && listing.kind[place] != HALT && leaks.hasRoom();
        }

        private boolean windowIsFull() {
            return guesses.open > 0 && guesses.distance() >= window;
        }

        private int runAhead() {
            boolean waits = listing.isAt(place, FENCE) && guesses.open > 0;
            if (!canRun() || listing.isAt(place, BRANCH) || waits || windowIsFull()) {
                return NONE;
            }
            step();
            guesses.countStep();
            return 0;
        }

        private int guess(boolean toTarget) {
            if (!listing.isAt(place, BRANCH) || guesses.isFull() || windowIsFull()) {
                return NONE;
            }
            int goesTo = toTarget ? listing.target[place] : place + 1;
            guesses.add(goesTo, branchDestination(place), registers, memory);
            place = goesTo;
            return 0;
        }

        private int resolve() {
            if (guesses.open == 0 || !leaks.hasRoom()) {
                return NONE;
            }
            leaks.add(Leaks.GOING, guesses.oldestOught());
            if (guesses.oldestIsRight()) {
                guesses.closeOldest();
                return 1;
            }
            place = guesses.oldestOught();
            guesses.rollBack(registers, memory);
            return 2;
        }

        private void step() {
            int here = place;
            place = here + 1;
            switch (listing.kind[here]) {
                case REG:
                case IMM:
                    compute(here);
                    break;
                case UPPER:
                    put(listing.result[here], listing.number[here]);
                    break;
                case LOAD:
                    fetch(here);
                    break;
                case STORE:
                    keep(here);
                    break;
                case BRANCH:
                    goTo(branchDestination(here));
                    break;
                case JUMP:
                    goTo(listing.target[here]);
                    break;
                default:
                    break;
            }
        }

        private void compute(int here) {
            int a = value(listing.first[here]);
            int b = listing.kind[here] == REG ? value(listing.second[here]) : listing.number[here];
            if (listing.isDivision(here)) {
                leaks.add(Leaks.DIVIDEND, a);
                leaks.add(Leaks.DIVISOR, b);
            }
            put(listing.result[here], Arithmetic.answer(listing.operation[here], a, b));
        }

        private int addressOf(int here) {
            return value(listing.first[here]) + listing.number[here];
        }

        private void fetch(int here) {
            int form = listing.operation[here];
            int address = addressOf(here);
            int bytes = 1 << (form & 3);
            int v = read(address, bytes);
            int spare = form < 4 ? 32 - 8 * bytes : 0;
            leaks.add(Leaks.LOADING, address);
            put(listing.result[here], v << spare >> spare);
        }

        private void keep(int here) {
            int address = addressOf(here);
            leaks.add(Leaks.STORING, address);
            write(address, 1 << (listing.operation[here] & 3), value(listing.second[here]));
        }

        private int branchDestination(int here) {
            int a = value(listing.first[here]);
            int b = value(listing.second[here]);
            return Arithmetic.holds(listing.operation[here], a, b) ? listing.target[here] : here + 1;
        }

        private void goTo(int there) {
            leaks.add(Leaks.GOING, there);
            place = there;
        }
    }

    /** Which results reach which instructions, a row of bits for each result, traced when asked for. */
    private static final class Reach {
        private final Listing listing;
        private final long[] rows = new long[MOST_PLACES * LONGS];
        private final int[] traced = new int[MOST_PLACES];
        private final int[] seenFor = new int[MOST_PLACES];
        private final int[] queue = new int[MOST_PLACES];
        private int tail = 0;

        Reach(Listing listing) {
            this.listing = listing;
        }

        void dropRows() {
            Arrays.fill(traced, 0);
            Arrays.fill(seenFor, 0);
        }

        boolean has(int from, int to) {
            return (rows[from * LONGS + (to >> 6)] >>> (to & 63) & 1) != 0;
        }

        void trace(int from) {
            if (traced[from] != 0) {
                return;
            }
            traced[from] = 1;
            Arrays.fill(rows, from * LONGS, from * LONGS + LONGS, 0L);
            if (listing.result[from] != 0) {
                follow(from, listing.result[from]);
            }
        }

        private void follow(int from, int register) {
            tail = 0;
            addNexts(from, from);
            for (int head = 0; head < tail && head < MOST_PLACES; head++) {
                int place = queue[head];
                if (listing.uses(place, register)) {
                    rows[from * LONGS + (place >> 6)] |= 1L << (place & 63);
                }
                if (listing.kind[place] != FENCE && listing.result[place] != register) {
                    addNexts(place, from);
                }
            }
        }

        private void addNexts(int place, int from) {
            addOnce(listing.nextBehind(place), from);
            addOnce(listing.nextAside(place), from);
        }

        /** A stamp of its own for each result saves clearing the row of those seen. */
        private void addOnce(int place, int from) {
            if (place != NONE && seenFor[place] != from + 1) {
                seenFor[place] = from + 1;
                queue[tail] = place;
                tail++;
            }
        }

        /** The first place from least on that from reaches and that is among them; the size if none is. */
        int nextAmong(long[] among, int from, int least) {
            int place = least;
            while (place < listing.size) {
                int column = place >> 6;
                long rest = (rows[from * LONGS + column] & among[column]) >>> (place & 63);
                if (rest != 0) {
                    return place + Long.bitCount((rest & -rest) - 1);
                }
                place = (place | 63) + 1;
            }
            return listing.size;
        }
    }

    /** What may run on a guess, what is tainted then, and what that exposes. */
    private static final class Taint {
        private final Listing listing;
        private final Reach reach;
        private final int[] marks = new int[MOST_PLACES];
        private final int[] guessed = new int[MOST_PLACES];
        private final int[] results = new int[MOST_PLACES];
        private final boolean[] givesAway = new boolean[MOST_PLACES];
        private final long[] clean = new long[LONGS];
        private final long[] betrayers = new long[LONGS];
        private int guessedCount = 0;
        private int resultCount = 0;
        private int exposed = 0;

        Taint(Listing listing, Reach reach) {
            this.listing = listing;
            this.reach = reach;
        }

        void spread() {
            prepare();
            markGuessed();
            for (int place = 0; place < listing.size; place++) {
                boolean guess = (marks[place] & MAY_RUN_ON_GUESS) != 0;
                if (guess && listing.kind[place] == LOAD && listing.result[place] != 0) {
                    addResult(place);
                }
            }
            for (int head = 0; head < resultCount && head < MOST_PLACES; head++) {
                passOn(results[head]);
            }
            for (int i = 0; i < resultCount; i++) {
                expose(results[i]);
            }
        }

        private void prepare() {
            guessedCount = 0;
            resultCount = 0;
            exposed = 0;
            Arrays.fill(marks, 0);
            Arrays.fill(clean, 0L);
            Arrays.fill(betrayers, 0L);
            for (int place = 0; place < listing.size; place++) {
                long bit = 1L << (place & 63);
                int kind = listing.kind[place];
                boolean leaks = kind == LOAD || kind == STORE || kind == BRANCH || listing.isDivision(place);
                givesAway[place] = false;
                clean[place >> 6] |= listing.handsOn(place) ? bit : 0L;
                betrayers[place >> 6] |= leaks ? bit : 0L;
            }
        }

        private void markGuessed() {
            for (int place = 0; place < listing.size; place++) {
                if (listing.kind[place] == BRANCH) {
                    addGuessedNexts(place);
                }
            }
            for (int head = 0; head < guessedCount && head < MOST_PLACES; head++) {
                if (listing.kind[guessed[head]] != FENCE) {
                    addGuessedNexts(guessed[head]);
                }
            }
        }

        private void addGuessedNexts(int place) {
            addGuessed(listing.nextBehind(place));
            addGuessed(listing.nextAside(place));
        }

        private void addGuessed(int place) {
            if (place != NONE && (marks[place] & MAY_RUN_ON_GUESS) == 0) {
                marks[place] |= MAY_RUN_ON_GUESS;
                guessed[guessedCount] = place;
                guessedCount++;
            }
        }

        private void addResult(int place) {
            marks[place] |= TAINTED;
            results[resultCount] = place;
            resultCount++;
        }

        private void passOn(int from) {
            reach.trace(from);
            for (int to = reach.nextAmong(clean, from, 0); to < listing.size;
                    to = reach.nextAmong(clean, from, to + 1)) {
                clean[to >> 6] &= ~(1L << (to & 63));
                addResult(to);
            }
        }

        private void expose(int from) {
            for (int to = reach.nextAmong(betrayers, from, 0); to < listing.size;
                    to = reach.nextAmong(betrayers, from, to + 1)) {
                if (listing.betrays(to, listing.result[from])) {
                    givesAway[from] = true;
                    addExposed(to);
                }
            }
        }

        private void addExposed(int place) {
            if ((marks[place] & EXPOSED) == 0) {
                marks[place] |= EXPOSED;
                exposed++;
            }
        }
    }

    /**
     * The smallest cut, by as many paths as there can be from tainted loads to results that give
     * something away, no two of them through one result. Each result has an entrance (its place twice)
     * and an exit (one more); a search goes against a path that is there only to lead it elsewhere.
     * What searches that fail have seen can never lead to an end again, so it stays seen; the results
     * whose entrance is seen and whose exit is not are the cut that lies nearest to the loads.
     */
    private static final class Cut {
        private static final int NO_PATH = -1;
        private static final int PATH_BEGINS = -2;
        private static final int UNSEEN = -1;
        private static final int SEARCH_BEGINS = -2;

        private final Listing listing;
        private final Reach reach;
        private final Taint taint;
        private final int[] pathBefore = new int[MOST_PLACES];
        private final int[] cameFrom = new int[2 * MOST_PLACES];
        private final int[] queue = new int[2 * MOST_PLACES];
        private final long[] unseenEntrances = new long[LONGS];
        private int tail = 0;
        private int results = 0;

        Cut(Listing listing, Reach reach, Taint taint) {
            this.listing = listing;
            this.reach = reach;
            this.taint = taint;
        }

        void find() {
            results = 0;
            if (taint.exposed == 0) {
                return;
            }
            prepare();
            for (int i = 0; i < taint.resultCount; i++) {
                int place = taint.results[i];
                if (listing.kind[place] == LOAD) {
                    addPathFrom(place);
                }
            }
            for (int i = 0; i < taint.resultCount; i++) {
                markIfCut(taint.results[i]);
            }
        }

        private void prepare() {
            Arrays.fill(pathBefore, NO_PATH);
            Arrays.fill(cameFrom, UNSEEN);
            Arrays.fill(unseenEntrances, 0L);
            for (int i = 0; i < taint.resultCount; i++) {
                openEntrance(taint.results[i]);
            }
        }

        /** Loads are tainted by themselves alone, so no taint passes on into one. */
        private void openEntrance(int place) {
            if (listing.kind[place] != LOAD) {
                unseenEntrances[place >> 6] |= 1L << (place & 63);
            }
        }

        private void addPathFrom(int start) {
            int last = search(start);
            if (last != NONE) {
                layPath(start, last);
                forgetSearch();
            }
        }

        /** The result at whose exit something is given away; NONE when no way leads to one. */
        private int search(int start) {
            tail = 0;
            see(2 * start, SEARCH_BEGINS);
            for (int head = 0; head < tail && head < 2 * MOST_PLACES; head++) {
                int place = queue[head] >> 1;
                boolean atExit = (queue[head] & 1) == 1;
                if (atExit && taint.givesAway[place]) {
                    return place;
                }
                if (atExit) {
                    leaveExit(place);
                } else {
                    leaveEntrance(place);
                }
            }
            return NONE;
        }

        private void leaveEntrance(int place) {
            int before = pathBefore[place];
            if (before == NO_PATH) {
                see(2 * place + 1, 2 * place);
            } else if (before != PATH_BEGINS) {
                see(2 * before + 1, 2 * place);
            }
        }

        private void leaveExit(int place) {
            if (pathBefore[place] != NO_PATH) {
                see(2 * place, 2 * place + 1);
            }
            for (int to = reach.nextAmong(unseenEntrances, place, 0); to < listing.size;
                    to = reach.nextAmong(unseenEntrances, place, to + 1)) {
                see(2 * to, 2 * place + 1);
            }
        }

        private void see(int door, int from) {
            if (cameFrom[door] != UNSEEN) {
                return;
            }
            cameFrom[door] = from;
            queue[tail] = door;
            tail++;
            if ((door & 1) == 0) {
                unseenEntrances[door >> 7] &= ~(1L << (door >> 1 & 63));
            }
        }

        /** An entrance that was come to from its own exit is on no path any more. */
        private void layPath(int start, int last) {
            int door = 2 * last + 1;
            for (int steps = 0; steps < 2 * MOST_PLACES && door != 2 * start; steps++) {
                int from = cameFrom[door];
                if ((door & 1) == 0) {
                    pathBefore[door >> 1] = from == door + 1 ? NO_PATH : from >> 1;
                }
                door = from;
            }
            pathBefore[start] = PATH_BEGINS;
        }

        private void forgetSearch() {
            for (int i = 0; i < tail; i++) {
                int door = queue[i];
                cameFrom[door] = UNSEEN;
                if ((door & 1) == 0) {
                    openEntrance(door >> 1);
                }
            }
        }

        private void markIfCut(int place) {
            boolean entered = listing.kind[place] == LOAD || cameFrom[2 * place] != UNSEEN;
            boolean left = cameFrom[2 * place + 1] != UNSEEN;
            if (entered && !left && pathBefore[place] != NO_PATH) {
                taint.marks[place] |= OF_THE_CUT;
                results++;
            }
        }
    }

    /** Writes the program anew, with a fence behind each result of the cut. */
    private static final class Rewriter {
        private final Listing listing;
        private final Taint taint;
        private final int[] moved = new int[MOST_PLACES + 1];
        private final int[] homes = new int[MOST_PLACES];

        Rewriter(Listing listing, Taint taint) {
            this.listing = listing;
            this.taint = taint;
        }

        /** Finds where each instruction goes; false if a branch could not go as far as it must then. */
        boolean plan(int newSize) {
            int fences = 0;
            for (int place = 0; place < listing.size; place++) {
                moved[place] = place + fences;
                fences += isCut(place) ? 1 : 0;
            }
            moved[listing.size] = newSize;
            for (int place = 0; place < listing.size; place++) {
                if (listing.kind[place] == BRANCH && !Word.isBranchOffset(newOffset(place))) {
                    return false;
                }
            }
            return newSize <= MOST_PLACES;
        }

        /** From the last word on down, since no word moves to a lower place; answers how many there are. */
        int writeOver(int[] words) {
            for (int place = listing.size - 1; place >= 0; place--) {
                int there = moved[place];
                words[there] = newWord(place, words[place]);
                homes[there] = place;
                if (isCut(place)) {
                    words[there + 1] = Word.FENCE_WORD;
                    homes[there + 1] = NONE;
                }
            }
            return moved[listing.size];
        }

        private boolean isCut(int place) {
            return (taint.marks[place] & OF_THE_CUT) != 0;
        }

        private int newOffset(int place) {
            return 4 * (moved[listing.target[place]] - moved[place]);
        }

        private int newWord(int place, int w) {
            switch (listing.kind[place]) {
                case BRANCH:
                    return Word.withBranchOffset(w, newOffset(place));
                case JUMP:
                    return Word.withJumpOffset(w, newOffset(place));
                default:
                    return w;
            }
        }
    }
}
