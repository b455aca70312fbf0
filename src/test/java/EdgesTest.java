/**
 * Promise by promise, each boundary that a sentence names: the last value that is still taken and the first one
 * that is refused. That a refused call changes nothing is seen to in RefusedTest.
 */
public final class EdgesTest {
    private static final int NONE = GuessFences.NONE;
    private static final int LEAST = -2147483648;
    private static final int MOST = 2147483647;

    public static void main(String[] args) {
        newObject();
        wordUpTo520();
        wordBehindRewrite();
        wordUnloads();
        againMany();
        againTimes();
        againUpTo520();
        againCopies();
        againBehindRewrite();
        clearCounts();
        wordAtEdges();
        loadOfNothing();
        loadBeginsAnew();
        loadLeavesNothing();
        loadOfFaultUnloads();
        faultAtOfTheLastLoad();
        decodedEdges();
        setEdges();
        registerEdges();
        pokeAndPeekOnGuess();
        runOnGuess();
        orderEdges();
        windowEdges();
        stateEdges();
        leakEdges();
        forgetEdges();
        reachesAndMarkEdges();
        flowOnGuess();
        rewriteBeginsAnew();
        rewriteOfNothing();
        homeWithoutRewrite();
        homeBehindRewrite();
        homeOfTheLastRewrite();
        homeEnds();
        Due.end("EdgesTest");
    }

    /** The least program with something to cut: word 1 gets a fence. */
    private static GuessFences exposed() {
        return Asm.loaded(Asm.beq(1, 2, 3), Asm.lw(3, 1, 0), Asm.lw(4, 3, 0));
    }

    /** Words that do nothing. */
    private static GuessFences idle(int size) {
        GuessFences x = Asm.words(Asm.NOP);
        if (size > 1) {
            x.again(1, size - 1);
        }
        return x;
    }

    /** A program with something to cut, of so many words before it is written anew, and one more then. */
    private static GuessFences rewritten(int size) {
        GuessFences x = Asm.words(Asm.beq(1, 2, 3), Asm.lw(3, 1, 0), Asm.lw(4, 3, 0));
        if (size > 3) {
            x.word(Asm.NOP);
        }
        if (size > 4) {
            x.again(1, size - 4);
        }
        x.load();
        Due.is("rewrite() of " + size, x.rewrite(), size + 1);
        return x;
    }

    private static void newObject() {
        GuessFences x = new GuessFences();
        Due.is("1: no words", x.wordAt(0), NONE);
        Due.state("1: not loaded", () -> x.state(0));
        Due.bounds("1: home(0)", () -> x.home(0));
        Due.argument("1: nothing to come again", () -> x.again(1, 1));
        Due.is("1: no fault", x.faultAt(), NONE);
        Due.is("1: clear()", x.clear(), 0);
        Due.is("1: the first word", x.word(0), 1);
    }

    private static void wordUpTo520() {
        GuessFences x = idle(518);
        Due.is("2: the 519th word", x.word(1), 519);
        Due.is("2: the 520th word", x.word(2), 520);
        Due.is("2: the 521st word", x.word(3), NONE);
        Due.is("2: wordAt(518)", x.wordAt(518), 1);
        Due.is("2: wordAt(519)", x.wordAt(519), 2);
        Due.is("2: wordAt(520)", x.wordAt(520), NONE);
        Due.is("2: clear()", x.clear(), 520);
        Due.is("2: room again", x.word(4), 1);
        GuessFences y = new GuessFences();
        for (int i = 1; i <= 500; i++) {
            Due.is("2: word " + i, y.word(i), i);
        }
    }

    /** "NONE when it has 520 or more": a program written anew may have more. */
    private static void wordBehindRewrite() {
        GuessFences x = rewritten(518);
        Due.is("2: with 519 words", x.word(Asm.NOP), 520);
        Due.state("2: not loaded then", () -> x.state(0));
        Due.is("2: with 520 words", x.word(Asm.NOP), NONE);
        GuessFences y = rewritten(519);
        Due.is("2: rewritten to 520", y.word(Asm.NOP), NONE);
        Due.is("2: still loaded", y.state(0), 0);
        GuessFences z = rewritten(520);
        Due.is("2: rewritten to 521", z.word(Asm.NOP), NONE);
        Due.is("2: still loaded", z.state(0), 0);
        Due.is("4: clear() of 521", z.clear(), 521);
        Due.is("2: room again", z.word(Asm.NOP), 1);
    }

    private static void wordUnloads() {
        GuessFences x = Asm.loaded(Asm.NOP);
        x.word(Asm.NOP);
        Due.state("2: word() unloads", () -> x.state(0));
        x.load();
        x.again(1, 1);
        Due.state("3: again() unloads", () -> x.state(0));
        x.load();
        x.clear();
        Due.state("4: clear() unloads", () -> x.state(0));
        x.load();
        Due.is("6: no words are loaded too", x.state(0), 0);
        x.clear();
        Due.state("4: clear() of none unloads", () -> x.state(0));
    }

    private static void againMany() {
        for (int size = 1; size <= 5; size++) {
            for (int many = -1; many <= 7; many++) {
                GuessFences x = idle(size);
                String name = "3: again(" + many + ", 1) with " + size + " words";
                String due = many >= 1 && many <= size ? Integer.toString(size + many) : "IllegalArgumentException";
                int last = many;
                Due.is(name, View.answerOf(() -> x.again(last, 1)), due);
            }
        }
        GuessFences y = idle(260);
        Due.argument("3: again(261, 1) with 260 words", () -> y.again(261, 1));
        Due.is("3: again(260, 1) with 260 words", y.again(260, 1), 520);
    }

    private static void againTimes() {
        GuessFences x = idle(1);
        Due.argument("3: again(1, 0)", () -> x.again(1, 0));
        Due.argument("3: again(1, -1)", () -> x.again(1, -1));
        Due.argument("3: again(1, -2147483648)", () -> x.again(1, LEAST));
        Due.is("3: again(1, 1)", x.again(1, 1), 2);
        Due.is("3: again(1, 2)", x.again(1, 2), 4);
    }

    /** Each way to 520 words is taken, each to 521 or more is not, however large the product. */
    private static void againUpTo520() {
        Due.is("3: 1 word, 519 times", idle(1).again(1, 519), 520);
        Due.is("3: 1 word, 520 times", idle(1).again(1, 520), NONE);
        Due.is("3: 8 words, 64 times", idle(8).again(8, 64), 520);
        Due.is("3: 8 words, 65 times", idle(8).again(8, 65), NONE);
        Due.is("3: 519 words, 1 more", idle(519).again(1, 1), 520);
        Due.is("3: 519 words, 2 more", idle(519).again(2, 1), NONE);
        Due.is("3: 520 words, 1 more", idle(520).again(1, 1), NONE);
        Due.is("3: 520 words, all of them", idle(520).again(520, 1), NONE);
        Due.argument("3: 520 words, 521 of them", () -> idle(520).again(521, 1));
        Due.argument("3: 520 words, 0 times", () -> idle(520).again(1, 0));
        Due.is("3: 2147483647 times", idle(1).again(1, MOST), NONE);
        Due.is("3: a product of 2 to the 32", idle(4).again(4, 1 << 30), NONE);
        Due.is("3: a product of 2 to the 31", idle(2).again(2, 1 << 30), NONE);
        Due.is("3: a product just above 2 to the 32", idle(3).again(3, 1431655766), NONE);
    }

    private static void againCopies() {
        GuessFences x = Asm.words(10, 20, 30, -40);
        Due.is("3: again(3, 2)", x.again(3, 2), 10);
        long[] due = {10, 20, 30, 4294967256L, 20, 30, 4294967256L, 20, 30, 4294967256L};
        for (int i = 0; i < due.length; i++) {
            Due.is("3: wordAt(" + i + ")", x.wordAt(i), due[i]);
        }
        Due.is("3: again(10, 1)", x.again(10, 1), 20);
        Due.is("3: the first one again", x.wordAt(10), 10);
        Due.is("3: the last one again", x.wordAt(19), 4294967256L);
        Due.is("3: no more", x.wordAt(20), NONE);
    }

    private static void againBehindRewrite() {
        Due.is("3: rewritten to 519", rewritten(518).again(1, 1), 520);
        Due.is("3: rewritten to 519, 2 more", rewritten(518).again(2, 1), NONE);
        Due.is("3: rewritten to 520", rewritten(519).again(1, 1), NONE);
        Due.is("3: rewritten to 521", rewritten(520).again(1, 1), NONE);
        Due.is("3: all 521 words", rewritten(520).again(521, 1), NONE);
        Due.argument("3: 522 of 521 words", () -> rewritten(520).again(522, 1));
        GuessFences x = rewritten(3);
        Due.is("3: the fence too", x.again(2, 1), 6);
        Due.is("3: wordAt(4)", x.wordAt(4), 267386895);
        Due.is("3: wordAt(5)", x.wordAt(5), Asm.lw(4, 3, 0));
    }

    private static void clearCounts() {
        int[] sizes = {1, 2, 519, 520};
        for (int size : sizes) {
            GuessFences x = idle(size);
            Due.is("4: clear() of " + size, x.clear(), size);
            Due.is("4: wordAt(0)", x.wordAt(0), NONE);
            Due.is("4: clear() of none", x.clear(), 0);
        }
    }

    private static void wordAtEdges() {
        GuessFences x = Asm.words(0, 1, MOST, LEAST, -1);
        long[] due = {0, 1, 2147483647L, 2147483648L, 4294967295L};
        for (int i = 0; i < due.length; i++) {
            Due.is("5: wordAt(" + i + ")", x.wordAt(i), due[i]);
        }
        Due.is("5: wordAt(5)", x.wordAt(5), NONE);
        Due.is("5: wordAt(-1)", x.wordAt(-1), NONE);
        Due.is("5: wordAt(-2147483648)", x.wordAt(LEAST), NONE);
        Due.is("5: wordAt(2147483647)", x.wordAt(MOST), NONE);
        GuessFences y = rewritten(520);
        Due.is("5: wordAt(520)", y.wordAt(520), Asm.NOP);
        Due.is("5: wordAt(521)", y.wordAt(521), NONE);
    }

    private static void loadOfNothing() {
        GuessFences x = new GuessFences();
        Due.is("6: load()", x.load(), 0);
        Due.is("7: faultAt()", x.faultAt(), NONE);
        Due.is("16: the place is the end", x.state(0), 0);
        Due.is("13: run(1000)", x.run(1000), 0);
        Due.is("19: check()", x.check(), 0);
        Due.is("22: cut()", x.cut(), 0);
        Due.bounds("8: decoded(0, 0)", () -> x.decoded(0, 0));
        Due.bounds("20: reaches(0, 0)", () -> x.reaches(0, 0));
        Due.bounds("21: mark(0)", () -> x.mark(0));
        x.set(31, 5);
        x.poke(252, 6);
        Due.is("9: register(31)", x.register(31), 5);
        Due.is("11: peek(252)", x.peek(252), 6);
    }

    private static void loadBeginsAnew() {
        GuessFences x = Asm.loaded(Asm.go(1), Asm.beq(0, 0, 0), Asm.NOP);
        for (int r = 1; r < 32; r++) {
            x.set(r, r);
        }
        for (int address = 0; address < 256; address += 4) {
            x.poke(address, -1);
        }
        x.run(1);
        x.order(2);
        x.order(2);
        Due.is("6: load() on a guess", x.load(), 0);
        for (int r = 0; r < 32; r++) {
            Due.is("6: register(" + r + ")", x.register(r), 0);
        }
        for (int address = 0; address < 256; address += 4) {
            Due.is("6: peek(" + address + ")", x.peek(address), 0);
        }
        for (int what = 0; what < 4; what++) {
            Due.is("6: state(" + what + ")", x.state(what), 0);
        }
        Due.is("6: leak(0)", x.leak(0), NONE);
        Due.is("6: nothing to resolve", x.order(3), NONE);
    }

    /** Programs that differ in all that can be studied; the last one is large. */
    private static GuessFences sample(GuessFences x, int which) {
        int branch = Asm.beq(1, 2, 1);
        int[][] words = {{}, {Asm.NOP}, {branch, Asm.lw(3, 1, 0), Asm.lw(4, 3, 0)}, {branch, Asm.addi(3, 1, 0), Asm.add(4, 3, 0)},
            {Asm.lw(1, 1, 0), Asm.lw(1, 1, 0), Asm.beq(1, 1, -2), Asm.lw(1, 1, 0)}, {Asm.addi(1, 1, 1), Asm.addi(1, 1, 1), Asm.go(-2)},
            {branch, Asm.lw(1, 0, 0), Asm.lw(2, 0, 0), Asm.add(3, 1, 2), Asm.addi(4, 3, 0), Asm.sw(0, 4, 0)},
            {branch, Asm.addi(1, 0, 0), Asm.addi(2, 0, 0), Asm.sw(3, 1, 2), Asm.upper(4, 3), Asm.beq(0, 4, 0)},
            {Asm.FENCE, Asm.FENCE, Asm.HALT, Asm.go(0), branch, Asm.reg(1, 4, 1, 1, 1)},
            {branch, Asm.lw(1, 0, 0), Asm.addi(2, 1, 0), Asm.lw(0, 1, 0), Asm.lw(0, 2, 0)},
            {branch, Asm.lw(1, 0, 0), Asm.sw(1, 0, 0), Asm.lw(5, 0, 0), Asm.addi(6, 5, 0), Asm.lw(0, 6, 0)}, {Asm.lw(1, 1, 0)}};
        for (int w : words[which]) {
            x.word(w);
        }
        if (which == words.length - 1) {
            x.again(1, 516);
            x.word(Asm.beq(0, 0, -300));
        }
        return x;
    }

    private static void reachesOfSix(GuessFences x) {
        for (int i = 0; i < 36; i++) {
            int from = i / 6;
            int to = i % 6;
            View.answerOf(() -> x.reaches(from, to) ? 1 : 0);
        }
    }

    /** What an earlier program left behind is not to be seen in a later one. */
    private static void loadLeavesNothing() {
        for (int first = 0; first < 12; first++) {
            for (int second = 0; second < 12; second++) {
                GuessFences x = sample(new GuessFences(), first);
                x.load();
                x.poke(0, 9);
                x.order(0);
                x.order(1);
                x.check();
                reachesOfSix(x);
                x.rewrite();
                x.order(0);
                x.clear();
                sample(x, second).load();
                GuessFences y = sample(new GuessFences(), second);
                y.load();
                Due.is("6: " + second + " behind " + first, View.of(x), View.of(y));
                Due.is("23: " + second + " behind " + first, x.rewrite(), y.rewrite());
                Due.is("23: " + second + " behind " + first + ": check()", x.check(), y.check());
            }
        }
    }

    private static void loadOfFaultUnloads() {
        GuessFences x = Asm.loaded(Asm.NOP);
        x.word(23);
        Due.is("6: load()", x.load(), 2);
        Due.state("6: not loaded then", () -> x.state(0));
        Due.is("6: the words stay", x.wordAt(1), 23);
        Due.is("6: once more", x.load(), 2);
        Due.is("6: words come behind them", x.word(Asm.NOP), 3);
        x.clear();
        x.word(Asm.NOP);
        Due.is("6: a good one", x.load(), 0);
        Due.is("6: loaded then", x.state(0), 0);
    }

    private static void faultAtOfTheLastLoad() {
        GuessFences x = Asm.words(103);
        Due.is("7: before load()", x.faultAt(), NONE);
        x.load();
        Due.is("7: the place 0", x.faultAt(), 0);
        x.clear();
        Due.is("7: clear() is no load()", x.faultAt(), 0);
        x.word(Asm.NOP);
        x.word(0);
        Due.is("7: nor is word()", x.faultAt(), 0);
        Due.is("6: load()", x.load(), 4);
        Due.is("7: the place 1", x.faultAt(), 1);
        x.again(1, 1);
        Due.is("7: nor is again()", x.faultAt(), 1);
        x.clear();
        x.load();
        Due.is("7: it answered 0", x.faultAt(), NONE);
        GuessFences y = exposed();
        y.rewrite();
        Due.is("7: behind rewrite()", y.faultAt(), NONE);
    }

    private static void decodedEdges() {
        GuessFences x = Asm.loaded(Asm.addi(1, 2, 3), Asm.NOP, Asm.beq(4, 5, 1));
        int[] first = {1, 1, 2, NONE, 3, NONE};
        int[] last = {5, NONE, 4, 5, 0, 3};
        for (int what = 0; what < 6; what++) {
            Due.is("8: decoded(0, " + what + ")", x.decoded(0, what), first[what]);
            Due.is("8: decoded(2, " + what + ")", x.decoded(2, what), last[what]);
        }
        Due.argument("8: decoded(0, -1)", () -> x.decoded(0, -1));
        Due.argument("8: decoded(2, 6)", () -> x.decoded(2, 6));
        Due.bounds("8: decoded(-1, 0)", () -> x.decoded(-1, 0));
        Due.bounds("8: decoded(3, 5)", () -> x.decoded(3, 5));
        Due.bounds("8: decoded(3, 6): the place comes first", () -> x.decoded(3, 6));
        x.word(Asm.NOP);
        Due.state("8: decoded(9, 9): not being loaded comes first", () -> x.decoded(9, 9));
        GuessFences y = rewritten(520);
        Due.is("8: decoded(520, 0)", y.decoded(520, 0), 1);
        Due.bounds("8: decoded(521, 0)", () -> y.decoded(521, 0));
    }

    private static void setEdges() {
        GuessFences x = Asm.loaded(Asm.beq(0, 0, 2), Asm.NOP, Asm.NOP);
        for (int r = 1; r < 32; r++) {
            x.set(r, 100 + r);
        }
        for (int r = 1; r < 32; r++) {
            Due.is("9: register(" + r + ")", x.register(r), 100 + r);
        }
        x.set(1, LEAST);
        x.set(31, MOST);
        Due.is("9: the least number", x.register(1), LEAST);
        Due.is("9: the greatest number", x.register(31), MOST);
        Due.argument("9: set(0, 1)", () -> x.set(0, 1));
        Due.argument("9: set(0, 0)", () -> x.set(0, 0));
        Due.argument("9: set(32, 1)", () -> x.set(32, 1));
        x.order(2);
        Due.state("9: on a guess", () -> x.set(1, 1));
        Due.state("9: on a guess, set(0, 1)", () -> x.set(0, 1));
        x.order(3);
        x.set(1, 3);
        Due.is("9: behind the guess", x.register(1), 3);
    }

    private static void registerEdges() {
        GuessFences x = Asm.loaded(Asm.beq(0, 0, 2), Asm.NOP, Asm.NOP);
        x.set(31, 8);
        Due.is("10: register(0)", x.register(0), 0);
        Due.is("10: register(31)", x.register(31), 8);
        Due.argument("10: register(-1)", () -> x.register(-1));
        Due.argument("10: register(32)", () -> x.register(32));
        x.order(1);
        Due.is("10: on a guess", x.register(31), 8);
        Due.argument("10: register(32) on a guess", () -> x.register(32));
    }

    private static void pokeAndPeekOnGuess() {
        GuessFences x = Asm.loaded(Asm.addi(1, 0, 9), Asm.beq(0, 0, 2), Asm.sw(1, 0, 0), Asm.NOP);
        x.poke(0, 5);
        x.run(1);
        x.order(1);
        x.order(0);
        Due.state("11: poke() on a guess", () -> x.poke(0, 1));
        Due.is("12: peek() on a guess", x.peek(0), 9);
        Due.is("14: wrong", x.order(3), 2);
        Due.is("12: peek() as then", x.peek(0), 5);
        x.poke(0, 6);
        Due.is("11: poke() behind the guess", x.peek(0), 6);
    }

    private static void runOnGuess() {
        GuessFences x = Asm.loaded(Asm.beq(0, 0, 2), Asm.NOP, Asm.NOP);
        x.order(2);
        Due.state("13: run(0) on a guess", () -> x.run(0));
        Due.state("13: run(1) on a guess", () -> x.run(1));
        Due.state("13: run(-1) on a guess", () -> x.run(-1));
        Due.state("13: run(1001) on a guess", () -> x.run(1001));
        x.order(3);
        Due.is("13: run(1000) behind the guess", x.run(1000), 1);
        Due.argument("13: run(1001) at the end", () -> x.run(1001));
        Due.argument("13: run(-1) at the end", () -> x.run(-1));
    }

    private static void orderEdges() {
        GuessFences x = Asm.loaded(Asm.NOP, Asm.beq(0, 0, 2), Asm.NOP, Asm.NOP);
        Due.argument("14: order(-1)", () -> x.order(-1));
        Due.argument("14: order(4)", () -> x.order(4));
        Due.is("14: order(0)", x.order(0), 0);
        Due.is("14: order(1)", x.order(1), 0);
        Due.is("14: order(3): wrong", x.order(3), 2);
        x.load();
        x.order(0);
        Due.is("14: order(2)", x.order(2), 0);
        Due.is("14: order(3): right", x.order(3), 1);
        Due.is("14: order(3): none", x.order(3), NONE);
        Due.argument("14: order(4), though nothing can be done", () -> x.order(4));
    }

    private static void windowEdges() {
        GuessFences x = new GuessFences();
        Due.is("15: at first, and not loaded", x.window(1), 16);
        Due.is("15: window(64)", x.window(64), 1);
        Due.argument("15: window(0)", () -> x.window(0));
        Due.argument("15: window(65)", () -> x.window(65));
        Due.argument("15: window(-1)", () -> x.window(-1));
        Due.is("15: what it was", x.window(40), 64);
        x.word(Asm.beq(1, 2, 3));
        x.word(Asm.lw(3, 1, 0));
        x.word(Asm.lw(4, 3, 0));
        Due.is("15: behind word()", x.window(41), 40);
        x.load();
        Due.is("15: behind load()", x.window(42), 41);
        x.order(1);
        Due.is("15: on a guess", x.window(43), 42);
        x.order(3);
        Due.is("15: behind a wrong guess", x.window(44), 43);
        x.rewrite();
        Due.is("15: behind rewrite()", x.window(45), 44);
        x.clear();
        Due.is("15: behind clear()", x.window(46), 45);
        Due.is("15: the same once more", x.window(46), 46);
    }

    private static void stateEdges() {
        GuessFences x = Asm.loaded(Asm.go(1), Asm.beq(0, 0, 1), Asm.lw(1, 0, 0));
        x.run(1);
        x.order(2);
        x.order(0);
        int[] due = {3, 1, 1, 2};
        for (int what = 0; what < 4; what++) {
            Due.is("16: state(" + what + ")", x.state(what), due[what]);
        }
        Due.argument("16: state(-1)", () -> x.state(-1));
        Due.argument("16: state(4)", () -> x.state(4));
    }

    private static void leakEdges() {
        GuessFences x = Asm.loaded(Asm.reg(1, 4, 0, 1, 2), Asm.go(-1));
        Due.is("17: leak(0) of none", x.leak(0), NONE);
        x.set(1, -1);
        x.set(2, -2);
        x.run(2);
        Due.is("17: leak(-1)", x.leak(-1), NONE);
        Due.is("17: leak(0)", x.leak(0), 3 * 4294967296L + 4294967295L);
        Due.is("17: leak(1)", x.leak(1), 4 * 4294967296L + 4294967294L);
        Due.is("17: leak(2)", x.leak(2), 0);
        Due.is("17: leak(3)", x.leak(3), NONE);
        x.run(1000);
        x.run(1000);
        Due.is("16: as many as there can be", x.state(3), 2048);
        Due.is("17: leak(2047)", x.leak(2047), 4 * 4294967296L + 4294967294L);
        Due.is("17: leak(2048)", x.leak(2048), NONE);
        Due.is("17: leak(2147483647)", x.leak(MOST), NONE);
        Due.is("17: leak(-2147483648)", x.leak(LEAST), NONE);
        x.word(23);
        Due.is("17: behind word()", x.leak(0), NONE);
        x.load();
        Due.is("17: behind a fault", x.leak(0), NONE);
        x.clear();
        Due.is("17: behind clear()", x.leak(0), NONE);
    }

    private static void forgetEdges() {
        GuessFences x = Asm.loaded(Asm.reg(1, 4, 0, 1, 2), Asm.go(-1));
        Due.is("18: of none", x.forget(), 0);
        x.run(1);
        Due.is("18: of two", x.forget(), 2);
        Due.is("18: none then", x.state(3), 0);
        Due.is("18: leak(0)", x.leak(0), NONE);
        Due.is("18: once more", x.forget(), 0);
        x.run(1);
        Due.is("18: the row begins anew", x.leak(0), 0);
        x.forget();
        x.run(1000);
        x.run(1000);
        Due.is("18: of 2048", x.forget(), 2048);
        Due.is("18: room again", x.run(1), 1);
    }

    private static void reachesAndMarkEdges() {
        GuessFences x = Asm.loaded(Asm.addi(1, 0, 1), Asm.NOP, Asm.add(2, 1, 1));
        Due.is("20: reaches(0, 2)", x.reaches(0, 2), true);
        Due.is("20: reaches(2, 0)", x.reaches(2, 0), false);
        Due.is("20: reaches(2, 2)", x.reaches(2, 2), false);
        Due.bounds("20: reaches(-1, 2)", () -> x.reaches(-1, 2));
        Due.bounds("20: reaches(0, 3)", () -> x.reaches(0, 3));
        Due.bounds("20: reaches(3, 0)", () -> x.reaches(3, 0));
        Due.bounds("20: reaches(0, -1)", () -> x.reaches(0, -1));
        Due.is("21: mark(0)", x.mark(0), 0);
        Due.is("21: mark(2)", x.mark(2), 0);
        Due.bounds("21: mark(-1)", () -> x.mark(-1));
        Due.bounds("21: mark(3)", () -> x.mark(3));
        GuessFences y = rewritten(520);
        Due.is("21: mark(520)", y.mark(520), 1);
        Due.bounds("21: mark(521)", () -> y.mark(521));
        Due.is("20: reaches(520, 520)", y.reaches(520, 520), false);
        Due.bounds("20: reaches(520, 521)", () -> y.reaches(520, 521));
    }

    /** What flows depends on the words alone, not on where the machine is or what registers have. */
    private static void flowOnGuess() {
        GuessFences x = exposed();
        x.set(3, 77);
        x.order(1);
        x.order(0);
        Due.is("19: check()", x.check(), 1);
        Due.is("20: reaches(1, 2)", x.reaches(1, 2), true);
        Due.is("21: mark(1)", x.mark(1), 11);
        Due.is("21: mark(2)", x.mark(2), 7);
        Due.is("22: cut()", x.cut(), 1);
        Due.is("16: state(0)", x.state(0), 2);
        Due.is("16: state(1)", x.state(1), 1);
    }

    private static void rewriteBeginsAnew() {
        GuessFences x = exposed();
        x.set(1, 4);
        x.poke(4, 5);
        x.order(1);
        x.order(0);
        Due.is("23: on a guess", x.rewrite(), 4);
        for (int what = 0; what < 4; what++) {
            Due.is("23: state(" + what + ")", x.state(what), 0);
        }
        Due.is("23: register(1)", x.register(1), 0);
        Due.is("23: register(3)", x.register(3), 0);
        Due.is("23: peek(4)", x.peek(4), 0);
        Due.is("23: leak(0)", x.leak(0), NONE);
        x.set(1, 9);
        Due.is("23: nothing is unresolved", x.register(1), 9);
        Due.is("23: the target is the new end", x.decoded(0, 5), 4);
    }

    private static void rewriteOfNothing() {
        GuessFences x = new GuessFences();
        Due.state("23: not loaded", x::rewrite);
        x.load();
        Due.is("23: no words", x.rewrite(), 0);
        Due.is("23: loaded", x.state(0), 0);
        GuessFences y = Asm.loaded(Asm.NOP, Asm.go(-1));
        y.run(3);
        Due.is("23: nothing to cut", y.rewrite(), 2);
        Due.is("23: begins anew all the same", y.state(0) + y.state(3), 0);
        Due.is("24: home(1)", y.home(1), 1);
    }

    private static void homeWithoutRewrite() {
        GuessFences x = Asm.words(103, 23);
        Due.is("24: home(0)", x.home(0), 0);
        Due.is("24: home(1)", x.home(1), 1);
        Due.bounds("24: home(2)", () -> x.home(2));
        Due.bounds("24: home(-1)", () -> x.home(-1));
        x.load();
        Due.is("24: not loaded, and none needed", x.home(1), 1);
        GuessFences y = idle(520);
        Due.is("24: home(519)", y.home(519), 519);
        Due.bounds("24: home(520)", () -> y.home(520));
    }

    private static void homes(String name, GuessFences x, int... due) {
        for (int i = 0; i < due.length; i++) {
            Due.is("24: " + name + ": home(" + i + ")", x.home(i), due[i]);
        }
        Due.bounds("24: " + name + ": home(" + due.length + ")", () -> x.home(due.length));
    }

    private static void homeBehindRewrite() {
        GuessFences x = exposed();
        x.rewrite();
        homes("rewritten", x, 0, 1, NONE, 2);
        x.load();
        homes("loaded again", x, 0, 1, NONE, 2);
        x.run(1000);
        x.forget();
        homes("run", x, 0, 1, NONE, 2);
        GuessFences y = rewritten(520);
        Due.is("24: home(520)", y.home(520), 519);
        Due.bounds("24: home(521)", () -> y.home(521));
        Due.is("2: word()", y.word(Asm.NOP), NONE);
        Due.is("3: again()", y.again(1, 1), NONE);
        Due.is("24: it got no words", y.home(2), NONE);
        Due.is("24: it got no words", y.home(520), 519);
    }

    private static void homeOfTheLastRewrite() {
        GuessFences x = exposed();
        x.rewrite();
        x.rewrite();
        homes("twice", x, 0, 1, 2, 3);
        x.word(Asm.lw(5, 1, 0));
        x.word(Asm.lw(6, 5, 0));
        homes("more words", x, 0, 1, 2, 3, 4, 5);
        Due.is("24: load()", x.load(), 0);
        Due.is("24: more to cut", x.cut(), 1);
        Due.is("23: rewrite()", x.rewrite(), 7);
        homes("rewritten again", x, 0, 1, 2, 3, 4, NONE, 5);
    }

    private static void homeEnds() {
        GuessFences word = rewritten(3);
        word.word(Asm.NOP);
        homes("word()", word, 0, 1, 2, 3, 4);
        GuessFences again = rewritten(3);
        again.again(2, 1);
        homes("again()", again, 0, 1, 2, 3, 4, 5);
        GuessFences clear = rewritten(3);
        clear.clear();
        homes("clear()", clear);
        for (int i = 0; i < 4; i++) {
            clear.word(Asm.NOP);
        }
        homes("clear() and words", clear, 0, 1, 2, 3);
        GuessFences refused = rewritten(3);
        Due.argument("24: again(5, 1)", () -> refused.again(5, 1));
        Due.is("24: again(4, 130)", refused.again(4, 130), NONE);
        homes("refused", refused, 0, 1, NONE, 2);
    }
}
