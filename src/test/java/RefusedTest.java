import java.util.function.Supplier;

/**
 * "Methods throw what their comments name, the one named first when several would do; a call that throws, or
 * answers NONE, changes nothing": every refused call, in every sort of state that an object can be in.
 */
public final class RefusedTest {
    private static final int LEAST = -2147483648;
    private static final int MOST = 2147483647;
    private static final int[] STORY = {Asm.addi(1, 0, 5), Asm.sw(1, 0, 8), Asm.branch(1, 1, 0, 12), Asm.lw(3, 1, 0),
        Asm.lw(4, 3, 0), Asm.addi(1, 1, 7), Asm.sw(1, 0, 8), Asm.beq(1, 0, -5), Asm.FENCE, Asm.HALT};

    public static void main(String[] args) {
        notLoaded("new", GuessFences::new, 0);
        notLoaded("words", RefusedTest::words, 10);
        notLoaded("a word added", RefusedTest::added, 11);
        notLoaded("words again", RefusedTest::addedAgain, 12);
        notLoaded("cleared", RefusedTest::cleared, 0);
        notLoaded("a fault", RefusedTest::faulty, 11);
        notLoaded("a word behind a rewrite", RefusedTest::addedToRewritten, 12);
        inOrder("no words", Asm::loaded, 0);
        inOrder("begun", RefusedTest::begun, 10);
        inOrder("at HALT", RefusedTest::atHalt, 10);
        inOrder("at the end", RefusedTest::atEnd, 3);
        inOrder("520 words", RefusedTest::full, 520);
        inOrder("rewritten", RefusedTest::rewritten, 11);
        inOrder("rewritten to 520", RefusedTest::rewrittenTo520, 520);
        inOrder("rewritten to 1025", RefusedTest::rewrittenTo1025, 1025);
        inOrder("2047 leaks", RefusedTest::leaky, 2);
        inOrder("too far to rewrite", RefusedTest::far, 515);
        onGuess("a guess", RefusedTest::guessed, 10);
        onGuess("at a fence", RefusedTest::atFence, 10);
        onGuess("16 unresolved", RefusedTest::sixteen, 3);
        onGuess("16 unresolved, all wrong", RefusedTest::sixteenWrong, 3);
        onGuess("the window full", RefusedTest::windowFull, 10);
        onGuess("2047 leaks on a guess", RefusedTest::leakyGuess, 2);
        onGuess("a guess in a rewritten one", RefusedTest::guessedRewritten, 11);
        onGuess("a guess, too far to rewrite", RefusedTest::farGuess, 515);
        moreWords();
        orders();
        rewrites();
        Due.end("RefusedTest");
    }

    private static GuessFences words() {
        return Asm.words(STORY);
    }

    private static GuessFences story() {
        return Asm.loaded(STORY);
    }

    private static GuessFences added() {
        GuessFences x = begun();
        x.word(Asm.NOP);
        return x;
    }

    private static GuessFences addedAgain() {
        GuessFences x = guessed();
        x.again(2, 1);
        return x;
    }

    private static GuessFences cleared() {
        GuessFences x = begun();
        x.clear();
        return x;
    }

    private static GuessFences faulty() {
        GuessFences x = begun();
        x.word(103);
        x.load();
        return x;
    }

    private static GuessFences addedToRewritten() {
        GuessFences x = rewritten();
        x.word(Asm.NOP);
        return x;
    }

    private static GuessFences begun() {
        GuessFences x = story();
        x.set(30, -9);
        x.poke(100, 77);
        x.run(2);
        return x;
    }

    private static GuessFences atHalt() {
        GuessFences x = begun();
        x.run(1000);
        return x;
    }

    private static GuessFences atEnd() {
        GuessFences x = Asm.loaded(Asm.addi(1, 0, 5), Asm.sw(1, 0, 8), Asm.beq(0, 0, 1));
        x.run(1000);
        return x;
    }

    private static GuessFences full() {
        GuessFences x = Asm.words(Asm.addi(1, 1, 3), Asm.sw(1, 1, 0));
        x.again(2, 259);
        x.load();
        x.run(7);
        return x;
    }

    private static GuessFences rewritten() {
        GuessFences x = story();
        x.rewrite();
        x.set(30, -9);
        x.run(2);
        return x;
    }

    private static GuessFences rewrittenTo520() {
        GuessFences x = Asm.words(Asm.beq(1, 2, 3), Asm.lw(3, 1, 0), Asm.lw(4, 3, 0), Asm.addi(1, 1, 1));
        x.again(1, 515);
        x.load();
        x.rewrite();
        x.run(3);
        return x;
    }

    private static GuessFences rewrittenTo1025() {
        GuessFences x = Asm.words(Asm.lw(1, 1, 0));
        x.again(1, 511);
        x.word(Asm.beq(0, 0, -512));
        x.load();
        x.rewrite();
        x.run(3);
        return x;
    }

    private static GuessFences leaky() {
        GuessFences x = Asm.loaded(Asm.go(1), Asm.go(-1));
        x.run(1000);
        x.run(1000);
        x.run(47);
        return x;
    }

    private static GuessFences far() {
        GuessFences x = Asm.words(Asm.addi(1, 0, 4), Asm.beq(0, 0, 513 + 1), Asm.lw(1, 1, 0));
        x.again(1, 510);
        x.word(Asm.NOP);
        x.word(Asm.NOP);
        x.load();
        x.run(1);
        return x;
    }

    /** Two unresolved branches, both guessed wrong, with registers and memory that differ at each. */
    private static GuessFences guessed() {
        GuessFences x = begun();
        x.order(1);
        for (int i = 0; i < 4; i++) {
            x.order(0);
        }
        x.order(2);
        return x;
    }

    private static GuessFences atFence() {
        GuessFences x = begun();
        x.order(2);
        x.order(0);
        x.order(0);
        x.order(1);
        return x;
    }

    private static GuessFences sixteen() {
        return sixteen(Asm.beq(0, 0, -2));
    }

    private static GuessFences sixteenWrong() {
        return sixteen(Asm.branch(1, 0, 0, -8));
    }

    /** As many guesses as there can be, and at the branch once more. */
    private static GuessFences sixteen(int branch) {
        GuessFences x = Asm.loaded(Asm.addi(1, 1, 1), Asm.sw(1, 0, 4), branch);
        x.window(64);
        for (int i = 0; i < 16; i++) {
            x.order(0);
            x.order(0);
            x.order(2);
        }
        x.order(0);
        x.order(0);
        return x;
    }

    private static GuessFences windowFull() {
        GuessFences x = begun();
        x.window(4);
        x.order(1);
        for (int i = 0; i < 4; i++) {
            x.order(0);
        }
        return x;
    }

    private static GuessFences leakyGuess() {
        GuessFences x = Asm.loaded(Asm.branch(1, 0, 0, 4), Asm.go(-1));
        x.run(1000);
        x.run(1000);
        x.run(46);
        x.order(1);
        x.order(0);
        return x;
    }

    private static GuessFences guessedRewritten() {
        GuessFences x = rewritten();
        x.order(1);
        x.order(0);
        return x;
    }

    private static GuessFences farGuess() {
        GuessFences x = far();
        x.order(1);
        x.order(0);
        return x;
    }

    /** Whatever the state: what is wrong with the arguments alone, of calls that need no loaded program. */
    private static void always(String name, Supplier<GuessFences> maker, int size) {
        int[] wrongMany = {0, -1, LEAST, size + 1, MOST};
        for (int many : wrongMany) {
            Refused.argument(name + ": again(" + many + ", 1)", maker, x -> x.again(many, 1));
            Refused.argument(name + ": again(" + many + ", 2147483647)", maker, x -> x.again(many, MOST));
        }
        int[] wrongTimes = {0, -1, LEAST};
        for (int times : wrongTimes) {
            Refused.argument(name + ": again(1, " + times + ")", maker, x -> x.again(1, times));
        }
        int[] wrongWindows = {0, -1, LEAST, 65, MOST};
        for (int window : wrongWindows) {
            Refused.argument(name + ": window(" + window + ")", maker, x -> x.window(window));
        }
        int[] wrongPlaces = {-1, LEAST, size, MOST};
        for (int i : wrongPlaces) {
            Refused.bounds(name + ": home(" + i + ")", maker, x -> x.home(i));
        }
        tooManyWords(name, maker, size);
    }

    private static void tooManyWords(String name, Supplier<GuessFences> maker, int size) {
        if (size > 0) {
            int tooOften = size >= 520 ? 1 : 521 - size;
            Refused.none(name + ": again(1, " + tooOften + ")", maker, x -> x.again(1, tooOften));
            Refused.none(name + ": again(1, 2147483647)", maker, x -> x.again(1, MOST));
            Refused.none(name + ": again(" + size + ", 2147483647)", maker, x -> x.again(size, MOST));
            Refused.none(name + ": again(" + size + ", 1073741824)", maker, x -> x.again(size, 1 << 30));
        }
        if (size >= 520) {
            Refused.none(name + ": word(19)", maker, x -> x.word(Asm.NOP));
            Refused.none(name + ": word(103)", maker, x -> x.word(103));
        }
    }

    /** IllegalStateException comes first: the arguments may be wrong as well. */
    private static void notLoaded(String name, Supplier<GuessFences> maker, int size) {
        always(name, maker, size);
        int[] any = {0, -1, LEAST, 1, size, 33, MOST};
        for (int v : any) {
            Refused.state(name + ": decoded(" + v + ", 0)", maker, x -> x.decoded(v, 0));
            Refused.state(name + ": decoded(0, " + v + ")", maker, x -> x.decoded(0, v));
            Refused.state(name + ": set(" + v + ", 1)", maker, x -> set(x, v));
            Refused.state(name + ": register(" + v + ")", maker, x -> x.register(v));
            Refused.state(name + ": poke(" + v + ", 1)", maker, x -> poke(x, v));
            Refused.state(name + ": peek(" + v + ")", maker, x -> x.peek(v));
            Refused.state(name + ": run(" + v + ")", maker, x -> x.run(v));
            Refused.state(name + ": order(" + v + ")", maker, x -> x.order(v));
            Refused.state(name + ": state(" + v + ")", maker, x -> x.state(v));
            Refused.state(name + ": reaches(" + v + ", 0)", maker, x -> x.reaches(v, 0) ? 1 : 0);
            Refused.state(name + ": reaches(0, " + v + ")", maker, x -> x.reaches(0, v) ? 1 : 0);
            Refused.state(name + ": mark(" + v + ")", maker, x -> x.mark(v));
            Refused.none(name + ": leak(" + v + ")", maker, x -> x.leak(v));
        }
        Refused.state(name + ": forget()", maker, GuessFences::forget);
        Refused.state(name + ": check()", maker, GuessFences::check);
        Refused.state(name + ": cut()", maker, GuessFences::cut);
        Refused.state(name + ": rewrite()", maker, GuessFences::rewrite);
    }

    private static void loaded(String name, Supplier<GuessFences> maker, int size) {
        always(name, maker, size);
        int[] wrongPlaces = {-1, LEAST, size, MOST};
        for (int place : wrongPlaces) {
            Refused.bounds(name + ": decoded(" + place + ", 0)", maker, x -> x.decoded(place, 0));
            Refused.bounds(name + ": decoded(" + place + ", 6)", maker, x -> x.decoded(place, 6));
            Refused.bounds(name + ": reaches(" + place + ", 0)", maker, x -> x.reaches(place, 0) ? 1 : 0);
            Refused.bounds(name + ": reaches(0, " + place + ")", maker, x -> x.reaches(0, place) ? 1 : 0);
            Refused.bounds(name + ": mark(" + place + ")", maker, x -> x.mark(place));
            Refused.none(name + ": wordAt(" + place + ")", maker, x -> x.wordAt(place));
        }
        if (size > 0) {
            wrongNumbers(-1, 6, v -> Refused.argument(name + ": decoded(0, " + v + ")", maker, x -> x.decoded(0, v)));
        }
        wrongNumbers(-1, 32, v -> Refused.argument(name + ": register(" + v + ")", maker, x -> x.register(v)));
        wrongNumbers(-1, 4, v -> Refused.argument(name + ": order(" + v + ")", maker, x -> x.order(v)));
        wrongNumbers(-1, 4, v -> Refused.argument(name + ": state(" + v + ")", maker, x -> x.state(v)));
        wrongNumbers(-1, 2048, v -> Refused.none(name + ": leak(" + v + ")", maker, x -> x.leak(v)));
    }

    private static void inOrder(String name, Supplier<GuessFences> maker, int size) {
        loaded(name, maker, size);
        wrongNumbers(0, 32, v -> Refused.argument(name + ": set(" + v + ", 1)", maker, x -> set(x, v)));
        wrongNumbers(-1, 1001, v -> Refused.argument(name + ": run(" + v + ")", maker, x -> x.run(v)));
    }

    private static void onGuess(String name, Supplier<GuessFences> maker, int size) {
        loaded(name, maker, size);
        int[] any = {0, 1, 31, 32, -1, LEAST, 1000, 1001, MOST};
        for (int v : any) {
            Refused.state(name + ": set(" + v + ", 1)", maker, x -> set(x, v));
            Refused.state(name + ": poke(" + v + ", 1)", maker, x -> poke(x, v));
            Refused.state(name + ": run(" + v + ")", maker, x -> x.run(v));
        }
    }

    private interface Each {
        void of(int v);
    }

    /** The last number below those that are taken, the first above them, and the farthest. */
    private static void wrongNumbers(int below, int above, Each each) {
        each.of(below);
        each.of(LEAST);
        each.of(above);
        each.of(MOST);
    }

    private static long set(GuessFences x, int register) {
        x.set(register, 1);
        return 0;
    }

    private static long poke(GuessFences x, int address) {
        x.poke(address, 1);
        return 0;
    }

    /** again() with arguments that are wrong throws, also where it would answer NONE. */
    private static void moreWords() {
        Refused.argument("520 words: again(521, 1)", RefusedTest::full, x -> x.again(521, 1));
        Refused.argument("520 words: again(520, 0)", RefusedTest::full, x -> x.again(520, 0));
        Refused.none("520 words: again(520, 1)", RefusedTest::full, x -> x.again(520, 1));
        Refused.argument("1025 words: again(1026, 1)", RefusedTest::rewrittenTo1025, x -> x.again(1026, 1));
        Refused.none("1025 words: again(1025, 1)", RefusedTest::rewrittenTo1025, x -> x.again(1025, 1));
    }

    private static void noOrder(String name, Supplier<GuessFences> maker, int... orders) {
        for (int order : orders) {
            Refused.none(name + ": order(" + order + ")", maker, x -> x.order(order));
        }
    }

    private static void orders() {
        noOrder("no words", Asm::loaded, 0, 1, 2, 3);
        noOrder("at a branch", RefusedTest::begun, 0, 3);
        noOrder("at no branch", RefusedTest::story, 1, 2, 3);
        noOrder("at HALT", RefusedTest::atHalt, 0, 1, 2, 3);
        noOrder("at the end", RefusedTest::atEnd, 0, 1, 2, 3);
        noOrder("2047 leaks", RefusedTest::leaky, 0, 1, 2, 3);
        noOrder("a guess, at a branch", RefusedTest::guessed, 0);
        noOrder("at a fence", RefusedTest::atFence, 0, 1, 2);
        noOrder("16 unresolved", RefusedTest::sixteen, 0, 1, 2);
        noOrder("16 unresolved, all wrong", RefusedTest::sixteenWrong, 0, 1, 2);
        noOrder("the window full, at a branch", RefusedTest::windowFull, 0, 1, 2);
        noOrder("the window full, at no branch", RefusedTest::windowFullInside, 0, 1, 2);
        noOrder("2047 leaks on a guess, at a branch", RefusedTest::leakyGuess, 0, 3);
        noOrder("2047 leaks on a guess, at a jump", RefusedTest::leakyGuessAtJump, 0, 1, 2, 3);
        noOrder("at HALT on a guess", () -> guessAt(Asm.HALT), 0, 1, 2);
        noOrder("at a jump on a guess", () -> guessAt(Asm.go(0)), 1, 2);
        noOrder("at the end on a guess", RefusedTest::endOnGuess, 0, 1, 2);
    }

    private static GuessFences windowFullInside() {
        GuessFences x = begun();
        x.window(1);
        x.order(1);
        x.order(0);
        return x;
    }

    private static GuessFences leakyGuessAtJump() {
        GuessFences x = leakyGuess();
        x.order(1);
        return x;
    }

    private static GuessFences guessAt(int word) {
        GuessFences x = Asm.loaded(Asm.addi(1, 0, 3), Asm.beq(0, 0, 2), word, Asm.NOP);
        x.run(1);
        x.order(1);
        return x;
    }

    private static GuessFences endOnGuess() {
        GuessFences x = Asm.loaded(Asm.addi(1, 0, 3), Asm.branch(1, 0, 0, 8), Asm.NOP);
        x.run(1);
        x.order(2);
        return x;
    }

    private static void rewrites() {
        Refused.none("too far: rewrite()", RefusedTest::far, GuessFences::rewrite);
        Refused.none("too far, on a guess: rewrite()", RefusedTest::farGuess, GuessFences::rewrite);
    }
}
