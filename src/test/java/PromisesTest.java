/** Each promise of the document by hand: ordinary inputs, the edges that it names, and wrong inputs. */
public final class PromisesTest {
    private static final int NONE = GuessFences.NONE;
    private static final int LEAST = -2147483648;
    private static final int MOST = 2147483647;

    public static void main(String[] args) {
        newObject();
        word();
        again();
        clear();
        wordAt();
        load();
        loadFaults();
        faultAt();
        decoded();
        set();
        register();
        poke();
        peek();
        run();
        runKinds();
        runMemory();
        runLeakLimit();
        order();
        orderRollsBack();
        orderLimits();
        orderLeakLimit();
        orderSamePlace();
        window();
        state();
        leak();
        forget();
        check();
        checkFences();
        reaches();
        mark();
        cut();
        cutNearestToLoads();
        cutTakesResultsBack();
        rewrite();
        rewriteTargets();
        rewriteLargest();
        rewriteFailing();
        usedAgain();
        home();
        Due.end("PromisesTest");
    }

    private static long pair(int sort, int number) {
        return sort * 4294967296L + (number & 0xFFFFFFFFL);
    }

    /** A branch, a load, and a load from what it loaded: the least program that is exposed. */
    private static GuessFences exposed() {
        return Asm.loaded(Asm.beq(1, 2, 3), Asm.lw(3, 1, 0), Asm.lw(4, 3, 0));
    }

    private static void newObject() {
        GuessFences x = new GuessFences();
        Due.is("1: NONE", GuessFences.NONE, -1);
        Due.is("1: wordAt(0)", x.wordAt(0), NONE);
        Due.is("1: faultAt()", x.faultAt(), NONE);
        Due.is("1: leak(0)", x.leak(0), NONE);
        Due.is("1: window(3)", x.window(3), 16);
        Due.state("1: check()", x::check);
        Due.state("1: run(1)", () -> x.run(1));
        Due.is("1: clear()", x.clear(), 0);
    }

    private static void word() {
        GuessFences x = Asm.loaded(Asm.NOP, Asm.HALT);
        Due.is("2: word(19)", x.word(Asm.NOP), 3);
        Due.state("2: register(1) behind word()", () -> x.register(1));
        Due.is("2: again(1, 516)", x.again(1, 516), 519);
        Due.is("2: word(-1)", x.word(-1), 520);
        Due.is("2: word(19) at 520", x.word(Asm.NOP), NONE);
        Due.is("2: wordAt(519)", x.wordAt(519), 4294967295L);
        Due.is("2: wordAt(520)", x.wordAt(520), NONE);
        x.clear();
        x.word(Asm.NOP);
        x.again(1, 519);
        x.load();
        x.run(7);
        Due.is("2: word() at 520", x.word(Asm.HALT), NONE);
        Due.is("2: still loaded behind NONE", x.state(0), 7);
    }

    private static void again() {
        GuessFences x = Asm.loaded(Asm.NOP, Asm.HALT, Asm.FENCE);
        Due.is("3: again(2, 2)", x.again(2, 2), 7);
        long[] due = {Asm.NOP, Asm.HALT, Asm.FENCE, Asm.HALT, Asm.FENCE, Asm.HALT, Asm.FENCE};
        for (int i = 0; i < due.length; i++) {
            Due.is("3: wordAt(" + i + ")", x.wordAt(i), due[i]);
        }
        Due.state("3: state(0) behind again()", () -> x.state(0));
        Due.argument("3: again(0, 1)", () -> x.again(0, 1));
        Due.argument("3: again(8, 1)", () -> x.again(8, 1));
        Due.argument("3: again(-1, 1)", () -> x.again(-1, 1));
        Due.argument("3: again(1, 0)", () -> x.again(1, 0));
        Due.argument("3: again(1, MIN)", () -> x.again(1, LEAST));
        Due.argument("3: again(1, 1) with no words", () -> new GuessFences().again(1, 1));
        x.load();
        Due.is("3: again(7, 74)", x.again(7, 74), NONE);
        Due.is("3: again(4, 1073741824) wraps not", x.again(4, 1073741824), NONE);
        Due.is("3: again(7, MAX)", x.again(7, MOST), NONE);
        Due.is("3: still loaded behind NONE", x.state(0), 0);
        Due.is("3: again(7, 73)", x.again(7, 73), 518);
        Due.is("3: again(2, 1)", x.again(2, 1), 520);
        Due.is("3: again(1, 1) at 520", x.again(1, 1), NONE);
        Due.argument("3: again(0, 1) at 520", () -> x.again(0, 1));
    }

    private static void clear() {
        GuessFences x = Asm.loaded(Asm.NOP, Asm.NOP);
        Due.is("4: clear()", x.clear(), 2);
        Due.is("4: clear() again", x.clear(), 0);
        Due.is("4: wordAt(0)", x.wordAt(0), NONE);
        Due.state("4: peek(0)", () -> x.peek(0));
        Due.is("4: word()", x.word(Asm.HALT), 1);
        x.clear();
        x.load();
        x.clear();
        Due.state("4: state(0) behind clear() of nothing", () -> x.state(0));
    }

    private static void wordAt() {
        GuessFences x = Asm.words(5, -2, LEAST);
        Due.is("5: wordAt(0)", x.wordAt(0), 5);
        Due.is("5: wordAt(1)", x.wordAt(1), 4294967294L);
        Due.is("5: wordAt(2)", x.wordAt(2), 2147483648L);
        Due.is("5: wordAt(3)", x.wordAt(3), NONE);
        Due.is("5: wordAt(-1)", x.wordAt(-1), NONE);
        Due.is("5: wordAt(MIN)", x.wordAt(LEAST), NONE);
        Due.is("5: wordAt(MAX)", x.wordAt(MOST), NONE);
    }

    private static void load() {
        GuessFences x = Asm.loaded(Asm.addi(1, 0, 5), Asm.sw(1, 0, 8), Asm.beq(0, 0, 0));
        x.run(3);
        x.order(1);
        Due.is("6: state(1)", x.state(1), 1);
        Due.is("6: load()", x.load(), 0);
        Due.is("6: register(1)", x.register(1), 0);
        Due.is("6: peek(8)", x.peek(8), 0);
        for (int what = 0; what < 4; what++) {
            Due.is("6: state(" + what + ")", x.state(what), 0);
        }
        Due.is("6: leak(0)", x.leak(0), NONE);
        Due.is("6: load() of no words", new GuessFences().load(), 0);
    }

    private static void fault(int word, int due) {
        GuessFences x = Asm.words(word);
        Due.is("6: load() of " + word, x.load(), due);
        Due.is("7: faultAt() of " + word, x.faultAt(), due == 0 ? NONE : 0);
    }

    private static void loadFaults() {
        fault(103, 1);
        fault(103 | 5 << 7 | 3 << 12, 1);
        fault(23, 2);
        fault(111 | 1 << 7, 3);
        fault(Asm.go(9) | 1 << 7, 3);
        fault(Asm.go(2), 5);
        fault(Asm.go(-1), 5);
        fault(Asm.jump(2), 5);
        fault(Asm.go(1), 0);
        fault(Asm.go(0), 0);
        fault(Asm.beq(0, 0, 1), 0);
        fault(Asm.beq(0, 0, 2), 5);
        fault(Asm.beq(0, 0, -1), 5);
        fault(Asm.branch(7, 1, 2, 6), 5);
        fault(Asm.branch(2, 1, 2, 4), 4);
        fault(Asm.branch(3, 1, 2, 6), 4);
        fault(Asm.branch(2, 1, 2, -400), 4);
        fault(Asm.load(3, 1, 1, 0), 4);
        fault(Asm.load(6, 1, 1, 0), 4);
        fault(Asm.load(7, 1, 1, 0), 4);
        fault(Asm.store(3, 1, 1, 0), 4);
        fault(Asm.store(7, 1, 1, 0), 4);
        fault(Asm.reg(32, 1, 1, 1, 1), 4);
        fault(Asm.reg(32, 5, 1, 1, 1), 0);
        fault(Asm.reg(2, 0, 1, 1, 1), 4);
        fault(Asm.reg(33, 0, 1, 1, 1), 4);
        fault(Asm.imm(1, 1, 1, 32), 4);
        fault(Asm.imm(1, 1, 1, 1024), 4);
        fault(Asm.imm(5, 1, 1, 1024 + 31), 0);
        fault(Asm.imm(5, 1, 1, 32), 4);
        fault(15 | 1 << 12, 4);
        fault(15 | 31 << 7 | 31 << 15 | 127 << 25, 0);
        fault(115, 0);
        fault(115 | 1 << 20, 4);
        fault(0, 4);
        fault(-1, 4);
        GuessFences x = Asm.loaded(Asm.NOP);
        x.clear();
        x.word(Asm.NOP);
        x.load();
        x.word(0);
        Due.is("6: load() of a fault", x.load(), 4);
        Due.state("6: not loaded then", () -> x.state(0));
    }

    private static void faultAt() {
        GuessFences x = Asm.words(Asm.NOP, 103, 23);
        Due.is("7: faultAt() before load()", x.faultAt(), NONE);
        Due.is("7: load()", x.load(), 1);
        Due.is("7: faultAt()", x.faultAt(), 1);
        x.word(Asm.NOP);
        Due.is("7: faultAt() behind word()", x.faultAt(), 1);
        x.clear();
        Due.is("7: faultAt() behind clear()", x.faultAt(), 1);
        x.load();
        Due.is("7: faultAt() behind a good load()", x.faultAt(), NONE);
    }

    private static void parts(int word, int kind, int d, int a, int b, int number, int target) {
        GuessFences x = Asm.loaded(Asm.NOP, word, Asm.NOP);
        int[] due = {kind, d, a, b, number, target};
        for (int what = 0; what < due.length; what++) {
            Due.is("8: decoded(1, " + what + ") of " + word, x.decoded(1, what), due[what]);
        }
    }

    private static void decoded() {
        parts(Asm.reg(1, 4, 5, 6, 7), 0, 5, 6, 7, 0, NONE);
        parts(Asm.add(0, 0, 31), 0, NONE, 0, 31, 0, NONE);
        parts(Asm.addi(31, 30, -2048), 1, 31, 30, NONE, -2048, NONE);
        parts(Asm.imm(7, 1, 0, 2047), 1, 1, 0, NONE, 2047, NONE);
        parts(Asm.imm(5, 1, 2, 1024 + 31), 1, 1, 2, NONE, 31, NONE);
        parts(Asm.imm(1, 1, 2, 3), 1, 1, 2, NONE, 3, NONE);
        parts(Asm.upper(3, -1), 2, 3, NONE, NONE, -4096, NONE);
        parts(Asm.upper(0, 0x80001), 2, NONE, NONE, NONE, 0x80001000, NONE);
        parts(Asm.load(4, 2, 9, -1), 3, 2, 9, NONE, -1, NONE);
        parts(Asm.lw(0, 9, 2047), 3, NONE, 9, NONE, 2047, NONE);
        parts(Asm.sw(8, 9, -2048), 4, NONE, 9, 8, -2048, NONE);
        parts(Asm.store(0, 0, 9, 2047), 4, NONE, 9, 0, 2047, NONE);
        parts(Asm.branch(6, 3, 4, 8), 5, NONE, 3, 4, 0, 3);
        parts(Asm.branch(1, 0, 4, -4), 5, NONE, 0, 4, 0, 0);
        parts(Asm.go(-1), 6, NONE, NONE, NONE, 0, 0);
        parts(Asm.go(2), 6, NONE, NONE, NONE, 0, 3);
        parts(Asm.FENCE | 3 << 7, 7, NONE, NONE, NONE, 0, NONE);
        parts(Asm.HALT, 8, NONE, NONE, NONE, 0, NONE);
        GuessFences x = Asm.words(Asm.NOP);
        Due.state("8: not loaded", () -> x.decoded(9, 9));
        x.load();
        Due.bounds("8: decoded(1, 9)", () -> x.decoded(1, 9));
        Due.bounds("8: decoded(-1, 0)", () -> x.decoded(-1, 0));
        Due.argument("8: decoded(0, 6)", () -> x.decoded(0, 6));
        Due.argument("8: decoded(0, -1)", () -> x.decoded(0, -1));
    }

    private static void set() {
        GuessFences x = Asm.words(Asm.beq(0, 0, 1));
        Due.state("9: not loaded", () -> x.set(0, 1));
        x.load();
        x.set(1, LEAST);
        x.set(31, MOST);
        x.set(31, 7);
        Due.is("9: register(1)", x.register(1), LEAST);
        Due.is("9: register(31)", x.register(31), 7);
        Due.argument("9: set(0, 1)", () -> x.set(0, 1));
        Due.argument("9: set(32, 1)", () -> x.set(32, 1));
        Due.argument("9: set(-1, 1)", () -> x.set(-1, 1));
        Due.is("9: register(0)", x.register(0), 0);
        x.order(1);
        Due.state("9: on a guess", () -> x.set(1, 1));
        Due.state("9: on a guess, register 0", () -> x.set(0, 1));
        x.order(3);
        x.set(1, 2);
        Due.is("9: register(1) behind the guess", x.register(1), 2);
    }

    private static void register() {
        GuessFences x = Asm.words(Asm.beq(0, 0, 2), Asm.addi(4, 0, 9));
        Due.state("10: not loaded", () -> x.register(-1));
        x.load();
        for (int r = 0; r < 32; r++) {
            Due.is("10: register(" + r + ")", x.register(r), 0);
        }
        Due.argument("10: register(32)", () -> x.register(32));
        Due.argument("10: register(-1)", () -> x.register(-1));
        x.order(1);
        x.order(0);
        Due.is("10: register(4) on a guess", x.register(4), 9);
    }

    private static void poke() {
        GuessFences x = Asm.words(Asm.beq(0, 0, 1), Asm.load(4, 1, 0, 255));
        Due.state("11: not loaded", () -> x.poke(0, 1));
        x.load();
        x.poke(7, 0x01020304);
        Due.is("11: peek(4)", x.peek(4), 0x01020304);
        Due.is("11: peek(8)", x.peek(8), 0);
        x.poke(-1, 0x05060708);
        Due.is("11: peek(252)", x.peek(252), 0x05060708);
        x.poke(256, 9);
        Due.is("11: peek(0)", x.peek(0), 9);
        x.run(2);
        Due.is("11: the highest byte comes last", x.register(1), 5);
        x.load();
        x.order(2);
        Due.state("11: on a guess", () -> x.poke(0, 1));
    }

    private static void peek() {
        GuessFences x = Asm.words(Asm.addi(1, 0, -1), Asm.store(0, 1, 0, 6), Asm.store(1, 1, 0, 11));
        Due.state("12: not loaded", () -> x.peek(0));
        x.load();
        x.run(3);
        Due.is("12: peek(4)", x.peek(4), 0x00FF0000);
        Due.is("12: peek(7)", x.peek(7), 0x00FF0000);
        Due.is("12: peek(8)", x.peek(8), 0xFFFF0000);
        Due.is("12: peek(264)", x.peek(264), 0xFFFF0000);
        Due.is("12: peek(MIN + 8)", x.peek(LEAST + 8), 0xFFFF0000);
        Due.is("12: peek(-244)", x.peek(-244), 0);
        Due.is("12: peek(-248)", x.peek(-248), 0xFFFF0000);
    }

    private static void run() {
        GuessFences x = Asm.words(Asm.addi(1, 1, 1), Asm.beq(0, 0, -1), Asm.HALT);
        Due.state("13: not loaded", () -> x.run(-1));
        x.load();
        Due.is("13: run(0)", x.run(0), 0);
        Due.is("13: run(5)", x.run(5), 5);
        Due.is("13: register(1)", x.register(1), 3);
        Due.is("13: place", x.state(0), 1);
        Due.is("13: run(1000)", x.run(1000), 1000);
        Due.argument("13: run(1001)", () -> x.run(1001));
        Due.argument("13: run(-1)", () -> x.run(-1));
        x.order(1);
        Due.state("13: on a guess", () -> x.run(1));
        Due.state("13: on a guess, too often", () -> x.run(1001));
        x.order(3);
        GuessFences y = Asm.loaded(Asm.NOP, Asm.FENCE, Asm.HALT, Asm.NOP);
        Due.is("13: run to HALT", y.run(1000), 2);
        Due.is("13: run at HALT", y.run(1), 0);
        Due.is("13: place of HALT", y.state(0), 2);
        GuessFences z = Asm.loaded(Asm.NOP, Asm.NOP);
        Due.is("13: run to the end", z.run(3), 2);
        Due.is("13: place of the end", z.state(0), 2);
        Due.is("13: run at the end", z.run(1), 0);
    }

    private static void operation(int g, int f, int a, int b, int due) {
        GuessFences x = Asm.loaded(Asm.reg(g, f, 3, 1, 2));
        x.set(1, a);
        x.set(2, b);
        x.run(1);
        Due.is("13: G " + g + " F " + f + " of " + a + ", " + b, x.register(3), due);
    }

    private static void runKinds() {
        operation(0, 0, MOST, 1, LEAST);
        operation(32, 0, LEAST, 1, MOST);
        operation(0, 1, 3, 33, 6);
        operation(0, 2, -1, 0, 1);
        operation(0, 2, 0, 0, 0);
        operation(0, 3, -1, 0, 0);
        operation(0, 3, 0, -1, 1);
        operation(0, 4, 12, 10, 6);
        operation(0, 5, -1, 60, 15);
        operation(32, 5, LEAST, 31, -1);
        operation(0, 6, 12, 10, 14);
        operation(0, 7, 12, 10, 8);
        operation(1, 0, 65536, 65537, 65536);
        operation(1, 1, LEAST, LEAST, 1 << 30);
        operation(1, 1, -1, 1, -1);
        operation(1, 2, -1, -1, -1);
        operation(1, 2, LEAST, -1, LEAST);
        operation(1, 3, -1, -1, -2);
        operation(1, 4, -7, 2, -3);
        operation(1, 4, 7, 0, -1);
        operation(1, 4, LEAST, -1, LEAST);
        operation(1, 5, -1, 2, MOST);
        operation(1, 5, 7, 0, -1);
        operation(1, 6, -7, 2, -1);
        operation(1, 6, -7, 0, -7);
        operation(1, 6, LEAST, -1, 0);
        operation(1, 7, -1, 16, 15);
        operation(1, 7, -7, 0, -7);
        GuessFences x = Asm.loaded(Asm.addi(0, 0, 5), Asm.imm(3, 1, 0, -1), Asm.imm(2, 2, 0, -1),
                Asm.upper(3, 0x12345), Asm.imm(5, 4, 3, 1024 + 4), Asm.reg(1, 4, 0, 3, 3));
        Due.is("13: run(9)", x.run(9), 6);
        Due.is("13: register 0 stays", x.register(0), 0);
        Due.is("13: sltiu with -1", x.register(1), 1);
        Due.is("13: slti with -1", x.register(2), 0);
        Due.is("13: UPPER", x.register(3), 0x12345000);
        Due.is("13: srai", x.register(4), 0x01234500);
        Due.is("13: a division without result leaks", x.state(3), 2);
    }

    private static void runMemory() {
        GuessFences x = Asm.loaded(Asm.load(0, 1, 31, -1), Asm.load(1, 2, 31, 3), Asm.lw(3, 31, 3),
                Asm.load(4, 4, 31, 3), Asm.load(5, 5, 31, 2), Asm.lw(0, 31, 0), Asm.store(0, 3, 31, 9));
        x.set(31, -256);
        x.poke(0, 0x8182F384);
        x.poke(252, 0x90000000);
        x.run(7);
        Due.is("13: a byte with its sign", x.register(1), 0xFFFFFF90);
        Due.is("13: a half with its sign", x.register(2), 0xFFFF8182);
        Due.is("13: a word", x.register(3), 0x8182F384);
        Due.is("13: a byte", x.register(4), 0x81);
        Due.is("13: a half", x.register(5), 0x8182);
        Due.is("13: a byte kept", x.peek(8), 0x8400);
        Due.is("17: the whole address of a load", x.leak(0), pair(1, -257));
        Due.is("17: as it is, not rounded", x.leak(2), pair(1, -253));
        Due.is("17: a load without result leaks", x.leak(5), pair(1, -256));
        Due.is("17: the address of a store", x.leak(6), pair(2, -247));
    }

    private static void runLeakLimit() {
        GuessFences x = Asm.loaded(Asm.go(0), Asm.NOP);
        Due.is("13: run(1000)", x.run(1000), 1000);
        Due.is("13: run(1000)", x.run(1000), 1000);
        Due.is("13: up to 2047 pairs", x.run(1000), 47);
        Due.is("13: pairs", x.state(3), 2047);
        Due.is("13: no room", x.run(1), 0);
        Due.is("14: no room to run", x.order(0), NONE);
        x.forget();
        Due.is("13: room again", x.run(1), 1);
        GuessFences y = Asm.loaded(Asm.reg(1, 4, 1, 2, 3), Asm.go(-1), Asm.NOP);
        y.run(1000);
        y.run(1000);
        Due.is("13: a division last, with 2046 pairs", y.state(3), 2048);
        Due.is("13: no room", y.run(1), 0);
        GuessFences z = new GuessFences();
        z.word(Asm.reg(1, 7, 1, 2, 3));
        z.again(1, 511);
        z.word(Asm.go(-512));
        z.load();
        z.run(1000);
        Due.is("13: from 1999 pairs by twos", z.run(1000), 24);
        Due.is("13: no division with 2047 pairs", z.state(3), 2047);
    }

    private static void order() {
        GuessFences x = Asm.words(Asm.beq(1, 2, 3), Asm.lw(3, 1, 4), Asm.lw(4, 3, 8), Asm.HALT);
        Due.state("14: not loaded", () -> x.order(9));
        x.load();
        Due.argument("14: order(4)", () -> x.order(4));
        Due.argument("14: order(-1)", () -> x.order(-1));
        Due.is("14: RUN at a branch", x.order(0), NONE);
        Due.is("14: RESOLVE of none", x.order(3), NONE);
        Due.is("14: GUESS", x.order(1), 0);
        Due.is("14: nothing leaks", x.state(3), 0);
        Due.is("14: place", x.state(0), 1);
        Due.is("14: GUESS at no branch", x.order(2), NONE);
        Due.is("14: RUN", x.order(0), 0);
        Due.is("14: RUN", x.order(0), 0);
        Due.is("14: RUN at HALT", x.order(0), NONE);
        Due.is("14: GUESS at HALT", x.order(1), NONE);
        Due.is("14: RESOLVE a wrong guess", x.order(3), 2);
        Due.is("14: place where it ought to go", x.state(0), 3);
        Due.is("14: what leaked stays", x.leak(1), pair(1, 8));
        Due.is("14: the resolved branch leaks", x.leak(2), pair(0, 3));
        GuessFences y = Asm.loaded(Asm.branch(1, 1, 2, 8), Asm.FENCE, Asm.go(1));
        Due.is("14: GUESS the target", y.order(2), 0);
        Due.is("14: RUN a jump", y.order(0), 0);
        Due.is("14: RUN at the end", y.order(0), NONE);
        Due.is("14: GUESS at the end", y.order(2), NONE);
        Due.is("14: the jump leaks", y.leak(0), pair(0, 3));
        Due.is("14: wrong", y.order(3), 2);
        Due.is("14: RUN a fence", y.order(0), 0);
        y.load();
        y.order(1);
        Due.is("14: RUN a fence on a guess", y.order(0), NONE);
        Due.is("14: right", y.order(3), 1);
        Due.is("14: RUN the fence behind it", y.order(0), 0);
    }

    private static void orderRollsBack() {
        GuessFences x = Asm.loaded(Asm.beq(1, 0, 1), Asm.addi(1, 1, 5), Asm.sw(1, 0, 0),
                Asm.beq(1, 0, -2), Asm.addi(2, 0, 3), Asm.HALT);
        x.order(2);
        x.order(0);
        x.order(0);
        x.order(2);
        x.order(0);
        x.order(0);
        x.order(1);
        Due.is("14: three unresolved", x.state(1), 3);
        Due.is("14: register(1)", x.register(1), 10);
        Due.is("14: peek(0)", x.peek(0), 10);
        Due.is("14: first was right", x.order(3), 1);
        Due.is("14: distance from the second", x.state(2), 3);
        Due.is("14: second was wrong by the registers of then", x.order(3), 2);
        Due.is("14: register(1) rolled back", x.register(1), 5);
        Due.is("14: peek(0) rolled back", x.peek(0), 5);
        Due.is("14: none unresolved", x.state(1), 0);
        Due.is("14: distance", x.state(2), 0);
        Due.is("14: place", x.state(0), 4);
        Due.is("14: run goes on", x.run(9), 1);
    }

    private static void orderLimits() {
        GuessFences x = Asm.loaded(Asm.branch(1, 0, 0, 0), Asm.NOP, Asm.go(-1));
        x.window(64);
        for (int i = 0; i < 16; i++) {
            Due.is("14: guess " + i, x.order(2), 0);
        }
        Due.is("14: 16 unresolved", x.order(2), NONE);
        Due.is("14: 16 unresolved", x.order(1), NONE);
        Due.is("14: state(1)", x.state(1), 16);
        Due.is("14: state(2)", x.state(2), 15);
        x.order(3);
        Due.is("14: wrong ones are gone", x.state(1), 0);
        x.load();
        x.window(16);
        x.order(1);
        for (int i = 0; i < 16; i++) {
            Due.is("14: RUN " + i, x.order(0), 0);
        }
        Due.is("14: the window is full", x.order(0), NONE);
        Due.is("14: state(2)", x.state(2), 16);
        x.window(64);
        Due.is("14: a wider window", x.order(0), 0);
        x.window(3);
        Due.is("14: a window below the distance", x.order(0), NONE);
        Due.is("14: RESOLVE", x.order(3), 1);
        Due.is("14: no window in order", x.order(0), 0);
        GuessFences y = Asm.loaded(Asm.branch(1, 0, 0, 4), Asm.branch(1, 0, 0, 4), Asm.branch(1, 0, 0, 4));
        y.window(1);
        y.order(1);
        y.order(1);
        Due.is("14: GUESS with the window full", y.order(1), NONE);
        Due.is("14: slots are used again", ring(), 40);
    }

    /** More guesses than there may be at once, one after the other. */
    private static int ring() {
        GuessFences x = Asm.loaded(Asm.addi(1, 1, 1), Asm.branch(1, 0, 0, 4), Asm.go(-2));
        int right = 0;
        for (int i = 0; i < 40; i++) {
            x.order(0);
            x.order(1);
            x.order(0);
            x.order(0);
            x.order(1);
            right += x.order(3);
            x.order(3);
            x.order(0);
        }
        Due.is("14: register(1)", x.register(1), 80);
        return right;
    }

    private static void orderLeakLimit() {
        GuessFences x = Asm.loaded(Asm.go(1), Asm.branch(1, 0, 0, -4), Asm.go(0));
        x.run(1);
        x.order(1);
        for (int i = 0; i < 3; i++) {
            x.order(0);
        }
        Due.is("14: right", x.order(3), 1);
        for (int i = 0; i < 2; i++) {
            x.run(1000);
        }
        x.run(41);
        Due.is("14: pairs", x.state(3), 2046);
        Due.is("14: RUN with 2046", x.order(0), 0);
        Due.is("14: RUN with 2047", x.order(0), NONE);
        GuessFences y = Asm.loaded(Asm.branch(1, 0, 0, 4), Asm.go(-1));
        y.run(1000);
        y.run(1000);
        y.run(46);
        Due.is("14: pairs", y.state(3), 2046);
        Due.is("14: GUESS leaks nothing", y.order(1), 0);
        Due.is("14: RUN with 2046", y.order(0), 0);
        Due.is("14: GUESS with 2047", y.order(1), 0);
        Due.is("14: RESOLVE with 2047", y.order(3), NONE);
        Due.is("14: RUN with 2047", y.order(0), NONE);
        Due.is("18: forget()", y.forget(), 2047);
        Due.is("14: RESOLVE then", y.order(3), 1);
    }

    /** Either guess at a branch to the word behind it goes where it ought to go, so nothing is rolled back. */
    private static void orderSamePlace() {
        for (int f : new int[] {0, 1, 4, 5, 6, 7}) {
            for (int v = -1; v <= 1; v++) {
                resolveSamePlace(f, v, 1);
                resolveSamePlace(f, v, 2);
            }
        }
    }

    private static void resolveSamePlace(int f, int v, int order) {
        String name = "14: F " + f + ", register 1 is " + v + ", order " + order + ": ";
        GuessFences x = Asm.loaded(Asm.branch(f, 1, 0, 4), Asm.addi(1, 1, 5), Asm.beq(0, 0, -2), Asm.HALT);
        x.set(1, v);
        Due.is(name + "GUESS", x.order(order), 0);
        Due.is(name + "RUN", x.order(0), 0);
        Due.is(name + "GUESS of the branch behind it", x.order(1), 0);
        Due.is(name + "RESOLVE", x.order(3), 1);
        Due.is(name + "leak", x.leak(0), 1);
        Due.is(name + "the register stays", x.register(1), v + 5);
        Due.is(name + "the place stays", x.state(0), 3);
        Due.is(name + "the other branch is unresolved", x.state(1), 1);
        Due.is(name + "distance", x.state(2), 0);
        Due.is(name + "RESOLVE of the other one", x.order(3), 2);
        Due.is(name + "its place", x.state(0), 0);
        Due.is(name + "its register", x.register(1), v + 5);
    }

    private static void window() {
        GuessFences x = Asm.words(Asm.NOP);
        Due.is("15: window(64)", x.window(64), 16);
        Due.is("15: window(1)", x.window(1), 64);
        Due.argument("15: window(0)", () -> x.window(0));
        Due.argument("15: window(65)", () -> x.window(65));
        x.load();
        x.rewrite();
        x.clear();
        Due.is("15: only window() changes it", x.window(5), 1);
    }

    private static void state() {
        GuessFences x = Asm.words(Asm.go(1), Asm.beq(0, 0, 1), Asm.NOP);
        Due.state("16: not loaded", () -> x.state(9));
        x.load();
        Due.argument("16: state(4)", () -> x.state(4));
        Due.argument("16: state(-1)", () -> x.state(-1));
        x.order(0);
        Due.is("16: distance when nothing is unresolved", x.state(2), 0);
        x.order(2);
        x.order(0);
        Due.is("16: state(0)", x.state(0), 3);
        Due.is("16: state(1)", x.state(1), 1);
        Due.is("16: state(2)", x.state(2), 1);
        Due.is("16: state(3)", x.state(3), 1);
    }

    private static void leak() {
        GuessFences x = Asm.loaded(Asm.reg(1, 5, 3, 1, 2), Asm.beq(1, 1, 2), Asm.NOP, Asm.branch(1, 1, 1, 4));
        x.set(1, -1);
        x.set(2, LEAST);
        x.run(9);
        Due.is("17: the first operand", x.leak(0), pair(3, -1));
        Due.is("17: the second operand", x.leak(1), pair(4, LEAST));
        Due.is("17: a branch that holds", x.leak(2), pair(0, 3));
        Due.is("17: one that does not", x.leak(3), pair(0, 4));
        Due.is("17: leak(4)", x.leak(4), NONE);
        Due.is("17: leak(-1)", x.leak(-1), NONE);
        x.word(Asm.NOP);
        Due.is("17: not loaded", x.leak(0), NONE);
    }

    private static void forget() {
        GuessFences x = Asm.words(Asm.go(1), Asm.branch(1, 0, 0, 8), Asm.lw(1, 0, 0));
        Due.state("18: not loaded", x::forget);
        x.load();
        Due.is("18: forget() of none", x.forget(), 0);
        x.order(0);
        x.order(1);
        x.order(0);
        Due.is("18: forget()", x.forget(), 2);
        Due.is("18: state(3)", x.state(3), 0);
        Due.is("18: leak(0)", x.leak(0), NONE);
        Due.is("18: the rest stays", x.state(2), 1);
        Due.is("18: RESOLVE", x.order(3), 1);
        Due.is("18: leak(0)", x.leak(0), pair(0, 2));
    }

    private static int exposures(int... words) {
        return Asm.loaded(words).check();
    }

    private static void check() {
        Due.state("19: not loaded", () -> new GuessFences().check());
        Due.is("19: no words", exposures(), 0);
        Due.is("19: a load", exposed().check(), 1);
        int branch = Asm.beq(0, 0, 3);
        Due.is("19: no branch", exposures(Asm.lw(3, 1, 0), Asm.lw(4, 3, 0)), 0);
        Due.is("19: a store at it", exposures(branch, Asm.lw(3, 1, 0), Asm.sw(4, 3, 0)), 1);
        Due.is("19: a store of it", exposures(branch, Asm.lw(3, 1, 0), Asm.sw(3, 4, 0)), 0);
        Due.is("19: a store of it at it", exposures(branch, Asm.lw(3, 1, 0), Asm.sw(3, 3, 0)), 1);
        Due.is("19: a branch", exposures(branch, Asm.lw(3, 1, 0), Asm.beq(4, 3, 0)), 1);
        Due.is("19: a division by it", exposures(branch, Asm.lw(3, 1, 0), Asm.reg(1, 7, 4, 5, 3)), 1);
        Due.is("19: a division of it", exposures(branch, Asm.lw(3, 1, 0), Asm.reg(1, 4, 4, 3, 5)), 1);
        Due.is("19: a product", exposures(branch, Asm.lw(3, 1, 0), Asm.reg(1, 3, 4, 3, 3)), 0);
        Due.is("19: a load without result", exposures(branch, Asm.lw(0, 1, 0), Asm.lw(4, 0, 0)), 0);
        Due.is("19: through IMM and REG", exposures(Asm.beq(0, 0, 5), Asm.lw(3, 1, 0), Asm.addi(4, 3, 0),
                Asm.add(5, 0, 4), Asm.lw(6, 5, 0)), 1);
        Due.is("19: through UPPER nothing comes", exposures(branch, Asm.lw(3, 1, 0), Asm.upper(3, 1),
                Asm.lw(6, 3, 0)), 0);
        Due.is("19: through a store nothing comes", exposures(Asm.beq(0, 0, 4), Asm.lw(3, 1, 0), Asm.sw(3, 0, 0),
                Asm.lw(6, 0, 0)), 0);
        Due.is("19: a loop", exposures(Asm.lw(1, 1, 0), Asm.beq(2, 2, -1)), 1);
        Due.is("19: before the branch alone", exposures(Asm.lw(1, 2, 0), Asm.lw(3, 1, 0), Asm.beq(2, 2, 1)), 0);
    }

    private static void checkFences() {
        Due.is("19: a fence behind the branch", exposures(Asm.beq(0, 0, 4), Asm.FENCE, Asm.lw(3, 1, 0),
                Asm.lw(4, 3, 0)), 0);
        Due.is("19: its other way has none", exposures(Asm.beq(0, 0, 2), Asm.FENCE, Asm.lw(3, 1, 0),
                Asm.lw(4, 3, 0)), 1);
        Due.is("19: a fence behind the load", exposures(Asm.beq(0, 0, 4), Asm.lw(3, 1, 0), Asm.FENCE,
                Asm.lw(4, 3, 0)), 0);
        Due.is("19: HALT ends the way", exposures(Asm.beq(0, 0, 4), Asm.lw(3, 1, 0), Asm.HALT,
                Asm.lw(4, 3, 0)), 0);
        Due.is("19: a jump over the fence", exposures(Asm.beq(0, 0, 5), Asm.lw(3, 1, 0), Asm.go(2), Asm.FENCE,
                Asm.lw(4, 3, 0)), 1);
        Due.is("19: what no way leads to counts too", exposures(Asm.HALT, Asm.beq(0, 0, 3), Asm.lw(3, 1, 0),
                Asm.lw(4, 3, 0)), 1);
    }

    private static void reaches() {
        GuessFences x = Asm.words(Asm.addi(1, 1, 1), Asm.beq(2, 2, 2), Asm.addi(1, 0, 1), Asm.add(3, 0, 1),
                Asm.beq(1, 0, -4), Asm.FENCE, Asm.sw(1, 1, 0));
        Due.state("20: not loaded", () -> x.reaches(-1, 9));
        x.load();
        Due.bounds("20: reaches(7, 0)", () -> x.reaches(7, 0));
        Due.bounds("20: reaches(0, 7)", () -> x.reaches(0, 7));
        Due.bounds("20: reaches(-1, 0)", () -> x.reaches(-1, 0));
        Due.bounds("20: reaches(0, -1)", () -> x.reaches(0, -1));
        Due.is("20: round the other result", x.reaches(0, 3), true);
        Due.is("20: from the other result", x.reaches(2, 3), true);
        Due.is("20: itself, round the loop", x.reaches(0, 0), true);
        Due.is("20: the first one round the loop", x.reaches(2, 0), true);
        Due.is("20: not used", x.reaches(0, 2), false);
        Due.is("20: behind a fence", x.reaches(0, 6), false);
        Due.is("20: not used either", x.reaches(0, 1), false);
        Due.is("20: nothing uses it", x.reaches(3, 4), false);
        Due.is("20: no result", x.reaches(1, 3), false);
        GuessFences y = Asm.loaded(Asm.addi(0, 0, 1), Asm.addi(1, 0, 1), Asm.addi(1, 1, 1), Asm.sw(1, 0, 0));
        Due.is("20: register 0 is no result", y.reaches(0, 1), false);
        Due.is("20: no loop", y.reaches(1, 1), false);
        Due.is("20: one step", y.reaches(1, 2), true);
        Due.is("20: another result between", y.reaches(1, 3), false);
        Due.is("20: a store uses B", y.reaches(2, 3), true);
        Due.is("20: backwards", y.reaches(2, 1), false);
    }

    private static void marks(GuessFences x, int... due) {
        for (int p = 0; p < due.length; p++) {
            Due.is("21: mark(" + p + ")", x.mark(p), due[p]);
        }
    }

    private static void mark() {
        GuessFences x = Asm.words(Asm.NOP);
        Due.state("21: not loaded", () -> x.mark(-1));
        x.load();
        Due.bounds("21: mark(1)", () -> x.mark(1));
        Due.bounds("21: mark(-1)", () -> x.mark(-1));
        marks(x, 0);
        marks(exposed(), 0, 11, 7);
        marks(Asm.loaded(Asm.beq(0, 0, 1), Asm.FENCE, Asm.lw(3, 1, 0), Asm.lw(4, 3, 0)), 0, 1, 0, 0);
        marks(Asm.loaded(Asm.lw(3, 1, 0), Asm.beq(3, 0, -1)), 1 + 2 + 8, 1 + 4);
        marks(Asm.loaded(Asm.beq(0, 0, 2), Asm.HALT, Asm.lw(0, 1, 0), Asm.upper(2, 1)), 0, 1, 1, 1);
    }

    private static void cut() {
        Due.state("22: not loaded", () -> new GuessFences().cut());
        Due.is("22: nothing exposed", Asm.loaded(Asm.beq(0, 0, 1), Asm.lw(1, 2, 0)).cut(), 0);
        Due.is("22: no words", Asm.loaded().cut(), 0);
        Due.is("22: exposed", exposed().cut(), 1);
        GuessFences join = Asm.loaded(Asm.beq(0, 0, 6), Asm.lw(1, 9, 0), Asm.lw(2, 9, 4), Asm.add(3, 1, 2),
                Asm.lw(0, 3, 0), Asm.sw(0, 3, 0));
        Due.is("22: where two loads come together", join.cut(), 1);
        marks(join, 0, 3, 3, 11, 5, 5);
        GuessFences fork = Asm.loaded(Asm.beq(0, 0, 6), Asm.lw(1, 9, 0), Asm.addi(2, 1, 1), Asm.addi(3, 1, 2),
                Asm.lw(0, 2, 0), Asm.lw(0, 3, 0));
        Due.is("22: where two ways part", fork.cut(), 1);
        marks(fork, 0, 11, 3, 3, 5, 5);
    }

    private static void cutNearestToLoads() {
        GuessFences chain = Asm.loaded(Asm.beq(0, 0, 5), Asm.lw(1, 9, 0), Asm.addi(2, 1, 1), Asm.addi(3, 2, 1),
                Asm.lw(0, 3, 0));
        marks(chain, 0, 11, 3, 3, 5);
        GuessFences late = Asm.loaded(Asm.beq(0, 0, 7), Asm.lw(1, 9, 0), Asm.lw(2, 9, 4), Asm.add(3, 1, 2),
                Asm.addi(4, 3, 1), Asm.addi(5, 4, 1), Asm.lw(0, 5, 0));
        marks(late, 0, 3, 3, 11, 3, 3, 5);
        GuessFences side = Asm.loaded(Asm.beq(0, 0, 7), Asm.lw(1, 9, 0), Asm.lw(2, 9, 4), Asm.add(3, 1, 2),
                Asm.lw(0, 3, 0), Asm.lw(0, 2, 0), Asm.lw(0, 1, 0));
        Due.is("22: both loads", side.cut(), 2);
        marks(side, 0, 11, 11, 3, 5, 5, 5);
        // The first search takes the result that the second load needs, and has to be led elsewhere.
        GuessFences led = Asm.loaded(Asm.beq(0, 0, 9), Asm.lw(1, 9, 0), Asm.lw(2, 9, 4), Asm.lw(3, 9, 8),
                Asm.add(4, 1, 2), Asm.add(5, 1, 3), Asm.add(4, 4, 3), Asm.lw(0, 4, 0), Asm.lw(0, 5, 0));
        Due.is("22: led elsewhere", led.cut(), 2);
        marks(led, 0, 3, 3, 3, 3, 11, 11, 5, 5);
    }

    /** The second search takes a result off the first path; the third one needs it. */
    private static void cutTakesResultsBack() {
        GuessFences x = Asm.loaded(Asm.beq(0, 0, 15), Asm.lw(1, 0, 0), Asm.lw(2, 0, 4), Asm.lw(3, 0, 8),
                Asm.add(4, 1, 3), Asm.add(5, 4, 2), Asm.addi(6, 1, 0), Asm.addi(7, 6, 0),
                Asm.addi(8, 4, 0), Asm.addi(9, 8, 0), Asm.addi(10, 9, 0), Asm.addi(11, 10, 0),
                Asm.lw(0, 5, 0), Asm.lw(0, 7, 0), Asm.lw(0, 11, 0));
        Due.is("22: three paths", x.cut(), 3);
        marks(x, 0, 11, 11, 11, 3, 3, 3, 3, 3, 3, 3, 3, 5, 5, 5);
    }

    private static void rewrite() {
        GuessFences x = Asm.words(Asm.NOP);
        Due.state("23: not loaded", x::rewrite);
        x.load();
        x.run(1);
        Due.is("23: no fence", x.rewrite(), 1);
        Due.is("23: begins anew", x.state(0), 0);
        GuessFences y = exposed();
        y.set(5, 6);
        y.poke(0, 7);
        y.order(1);
        y.order(0);
        Due.is("23: on a guess", y.rewrite(), 4);
        Due.is("23: register(5)", y.register(5), 0);
        Due.is("23: peek(0)", y.peek(0), 0);
        for (int what = 0; what < 4; what++) {
            Due.is("23: state(" + what + ")", y.state(what), 0);
        }
        long[] due = {Asm.beq(1, 2, 4), Asm.lw(3, 1, 0), Asm.FENCE, Asm.lw(4, 3, 0)};
        for (int i = 0; i < due.length; i++) {
            Due.is("23: wordAt(" + i + ")", y.wordAt(i), due[i]);
        }
        Due.is("23: check()", y.check(), 0);
        Due.is("23: faultAt()", y.faultAt(), NONE);
        marks(y, 0, 3, 1, 0);
        Due.is("23: once more", y.rewrite(), 4);
        Due.is("23: no words", Asm.loaded().rewrite(), 0);
    }

    /** Targets before, behind and across fences, and the end. */
    private static void rewriteTargets() {
        GuessFences x = Asm.loaded(Asm.go(2), Asm.lw(1, 1, 0), Asm.beq(1, 2, 2), Asm.go(-2), Asm.lw(2, 1, 4),
                Asm.beq(2, 0, 3), Asm.branch(1, 0, 0, -20), Asm.lw(2, 2, 8));
        Due.is("23: cut()", x.cut(), 2);
        Due.is("23: rewrite()", x.rewrite(), 10);
        long[] due = {Asm.go(3), Asm.lw(1, 1, 0), Asm.FENCE, Asm.beq(1, 2, 2), Asm.go(-3), Asm.lw(2, 1, 4), Asm.FENCE,
                Asm.beq(2, 0, 3), Asm.branch(1, 0, 0, -28), Asm.lw(2, 2, 8)};
        int[] homes = {0, 1, NONE, 2, 3, 4, NONE, 5, 6, 7};
        for (int i = 0; i < due.length; i++) {
            Due.is("23: wordAt(" + i + ")", x.wordAt(i), due[i] & 0xFFFFFFFFL);
            Due.is("24: home(" + i + ")", x.home(i), homes[i]);
        }
    }

    /** As many words as there can be, and jumps that go over more than half of them. */
    private static void rewriteLargest() {
        GuessFences x = new GuessFences();
        x.word(Asm.beq(0, 0, 1));
        x.word(Asm.lw(1, 1, 0));
        x.again(1, 518);
        x.load();
        Due.is("23: cut()", x.cut(), 518);
        Due.is("23: rewrite()", x.rewrite(), 1038);
        Due.is("23: the last fence", x.wordAt(1036), Asm.FENCE);
        Due.is("24: the last fence", x.home(1036), NONE);
        Due.is("24: the last word", x.home(1037), 519);
        Due.is("20: the first load", x.reaches(1, 3), false);
        Due.is("23: once more", x.rewrite(), 1038);
        Due.is("13: run(1000)", x.run(1000), 1000);
        Due.is("13: run(1000)", x.run(1000), 38);
        x.clear();
        x.word(Asm.go(513));
        x.word(Asm.lw(1, 1, 0));
        x.again(1, 509);
        x.word(Asm.beq(0, 0, -1));
        x.word(Asm.HALT);
        x.word(Asm.go(-512));
        Due.is("23: load()", x.load(), 0);
        Due.is("23: cut() of a loop of one load", x.cut(), 1);
        x.clear();
        x.word(Asm.go(513));
        x.word(Asm.beq(0, 0, 1));
        x.word(Asm.lw(1, 1, 0));
        x.again(1, 509);
        x.word(Asm.HALT);
        x.word(Asm.go(-512));
        Due.is("23: load()", x.load(), 0);
        Due.is("23: rewrite()", x.rewrite(), 1023);
        Due.is("23: a jump far on", x.wordAt(0), Asm.go(1022));
        Due.is("23: a jump far back", x.wordAt(1022), Asm.go(-1021) & 0xFFFFFFFFL);
        Due.is("8: where it goes", x.decoded(1022, 5), 1);
    }

    /** A branch to the end over loads, each with its fence: as far as it can go, and one further. */
    private static void rewriteFailing() {
        GuessFences x = new GuessFences();
        x.word(Asm.beq(0, 0, 513));
        x.word(Asm.lw(1, 1, 0));
        x.again(1, 510);
        x.word(Asm.NOP);
        Due.is("23: load()", x.load(), 0);
        Due.is("23: cut()", x.cut(), 510);
        Due.is("23: an offset of 4092", x.rewrite(), 1023);
        x.clear();
        x.word(Asm.NOP);
        x.word(Asm.beq(0, 0, 514));
        x.word(Asm.lw(1, 1, 0));
        x.again(1, 511);
        x.word(Asm.NOP);
        x.load();
        x.run(1);
        Due.is("23: an offset of 4100", x.rewrite(), NONE);
        Due.is("23: nothing changed", x.wordAt(3), Asm.lw(1, 1, 0));
        Due.is("23: not begun anew", x.state(0), 1);
        Due.is("24: home(514)", x.home(514), 514);
        x.clear();
        x.word(Asm.beq(0, 0, 514));
        x.word(Asm.lw(1, 1, 0));
        x.again(1, 511);
        x.word(Asm.NOP);
        x.load();
        Due.is("23: from the first word on", x.rewrite(), NONE);
        GuessFences y = new GuessFences();
        y.word(Asm.lw(1, 1, 0));
        y.again(1, 511);
        y.word(Asm.beq(0, 0, -512));
        Due.is("23: load()", y.load(), 0);
        Due.is("23: backwards, all 512 in the cut", y.cut(), 512);
        Due.is("23: an offset of -4096", y.rewrite(), 1025);
        Due.is("23: the branch", y.wordAt(1024), Asm.branch(0, 0, 0, -4096) & 0xFFFFFFFFL);
        Due.is("23: check()", y.check(), 0);
        Due.is("2: word() at 1025", y.word(Asm.NOP), NONE);
        Due.is("3: again() at 1025", y.again(1025, 1), NONE);
        Due.argument("3: again(1026, 1)", () -> y.again(1026, 1));
        Due.is("4: clear() of 1025", y.clear(), 1025);
        y.word(Asm.NOP);
        y.word(Asm.lw(1, 1, 0));
        y.again(1, 512);
        y.word(Asm.beq(0, 0, -513));
        y.load();
        Due.is("23: an offset of -4104", y.rewrite(), NONE);
        Due.is("24: home(1) behind NONE", y.home(1), 1);
    }

    private static void home() {
        GuessFences x = Asm.words(Asm.beq(1, 2, 3), Asm.lw(3, 1, 0), Asm.lw(4, 3, 0));
        Due.bounds("24: home(3)", () -> x.home(3));
        Due.bounds("24: home(-1)", () -> x.home(-1));
        Due.is("24: no rewrite()", x.home(2), 2);
        x.load();
        x.rewrite();
        int[] due = {0, 1, NONE, 2};
        for (int i = 0; i < due.length; i++) {
            Due.is("24: home(" + i + ")", x.home(i), due[i]);
        }
        Due.bounds("24: home(4)", () -> x.home(4));
        x.load();
        Due.is("24: load() changes nothing", x.home(3), 2);
        Due.argument("24: again(9, 1)", () -> x.again(9, 1));
        Due.is("24: again(1, 600)", x.again(1, 600), NONE);
        Due.is("24: nor what answers NONE", x.home(3), 2);
        x.rewrite();
        Due.is("24: the last rewrite() counts", x.home(3), 3);
        Due.is("24: a fence that it did not put in", x.home(2), 2);
        GuessFences y = exposed();
        y.rewrite();
        y.word(Asm.NOP);
        Due.is("24: behind word()", y.home(3), 3);
        Due.is("24: the fence behind word()", y.home(2), 2);
        GuessFences z = exposed();
        z.rewrite();
        z.again(1, 1);
        Due.is("24: behind again()", z.home(3), 3);
        z.clear();
        Due.bounds("24: behind clear()", () -> z.home(0));
        z.word(Asm.NOP);
        Due.is("24: behind clear() and word()", z.home(0), 0);
    }

    /** What a longer program left behind does not show in a shorter one. */
    private static void usedAgain() {
        GuessFences x = Asm.loaded(Asm.beq(0, 0, 3), Asm.lw(1, 2, 0), Asm.lw(3, 1, 0), Asm.beq(1, 1, 0));
        Due.is("21: mark(2)", x.mark(2), 7);
        x.clear();
        x.word(Asm.beq(0, 0, 3));
        x.word(Asm.addi(1, 1, 0));
        x.word(Asm.add(3, 1, 1));
        x.load();
        Due.is("14: GUESS", x.order(2), 0);
        Due.is("14: no branch stands at the end", x.order(1), NONE);
        marks(x, 0, 1, 1);
        Due.is("22: cut()", x.cut(), 0);
        Due.is("20: reaches(1, 2)", x.reaches(1, 2), true);
    }
}
