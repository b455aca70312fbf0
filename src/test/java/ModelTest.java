import java.util.Random;

/** Compares the program with the slow model on programs and orders that a fixed seed makes. */
public final class ModelTest {
    private static final Random RANDOM = new Random(20261115);
    private static final int[] EDGES = {0, 1, -1, 2, 7, -7, 31, 32, 255, 256, -2147483648, 2147483647, 65535, -128};

    public static void main(String[] args) {
        for (int i = 0; i < 3000; i++) {
            faults(i);
        }
        for (int i = 0; i < 3000; i++) {
            flow("small flow " + i, program(1 + RANDOM.nextInt(14), 3));
        }
        for (int i = 0; i < 150; i++) {
            flow("large flow " + i, program(30 + RANDOM.nextInt(60), 2 + RANDOM.nextInt(6)));
        }
        for (int i = 0; i < 1500; i++) {
            flow("small web " + i, web(3 + RANDOM.nextInt(3), 1 + RANDOM.nextInt(7), 1 + RANDOM.nextInt(4)));
        }
        for (int i = 0; i < 100; i++) {
            flow("large web " + i, web(4 + RANDOM.nextInt(12), 10 + RANDOM.nextInt(50), 1 + RANDOM.nextInt(12)));
        }
        for (int i = 0; i < 2000; i++) {
            orders("orders " + i, program(1 + RANDOM.nextInt(20), 6));
        }
        for (int i = 0; i < 3000; i++) {
            arithmetic("arithmetic " + i);
        }
        Due.end("ModelTest");
    }

    /** Behind its 512th call the document promises nothing of an object. */
    private static final int MOST_CALLS = 512;
    private static GuessFences used = new GuessFences();
    private static int left = MOST_CALLS;

    /** Objects take up several programs, so that what one left behind would be seen in the next. */
    private static GuessFences loaded(int[] words, int calls) {
        int all = words.length + 2 + calls;
        if (left < all) {
            used = new GuessFences();
            left = MOST_CALLS;
        }
        left -= all;
        used.clear();
        for (int w : words) {
            used.word(w);
        }
        Due.is("load()", used.load(), 0);
        return used;
    }

    /** The object that has this program loaded, or another one if it has not so many calls left. */
    private static GuessFences ready(int[] words, int calls) {
        if (left < calls) {
            return loaded(words, calls);
        }
        left -= calls;
        return used;
    }

    private static int pick(int... choices) {
        return choices[RANDOM.nextInt(choices.length)];
    }

    private static int[] program(int size, int registers) {
        int[] words = new int[size];
        int fences = RANDOM.nextInt(3);
        for (int p = 0; p < size; p++) {
            words[p] = instruction(p, size, registers, fences);
        }
        return words;
    }

    private static int instruction(int p, int size, int registers, int fences) {
        int d = RANDOM.nextInt(registers + 1);
        int a = RANDOM.nextInt(registers + 1);
        int b = RANDOM.nextInt(registers + 1);
        int number = RANDOM.nextInt(4096) - 2048;
        int aside = RANDOM.nextInt(size + 1) - p;
        int sort = RANDOM.nextInt(20);
        if (sort < 5) {
            return Asm.load(pick(0, 1, 2, 4, 5), d, a, number);
        }
        if (sort < 8) {
            int g = pick(0, 0, 1, 32);
            return Asm.reg(g, g == 32 ? pick(0, 5) : RANDOM.nextInt(8), d, a, b);
        }
        if (sort < 11) {
            int f = RANDOM.nextInt(8);
            boolean shift = f == 1 || f == 5;
            int by = RANDOM.nextInt(32) | (f == 5 ? pick(0, 32 << 5) : 0);
            return Asm.imm(f, d, a, shift ? by : number);
        }
        if (sort < 13) {
            return Asm.store(RANDOM.nextInt(3), b, a, number);
        }
        if (sort < 17) {
            return Asm.branch(pick(0, 1, 4, 5, 6, 7), a, b, 4 * aside);
        }
        if (sort == 17) {
            return RANDOM.nextInt(3) == 0 ? Asm.go(aside) : Asm.upper(d, RANDOM.nextInt());
        }
        if (sort == 18) {
            return RANDOM.nextInt(3) < fences ? Asm.FENCE : Asm.addi(d, a, number);
        }
        return RANDOM.nextInt(4) == 0 ? Asm.HALT : Asm.add(d, a, b);
    }

    /** Loads behind a branch, sums of what came before, and loads at some of these: dense for the cut. */
    private static int[] web(int loads, int sums, int betrayers) {
        int[] words = new int[1 + loads + sums + betrayers];
        int near = 2 + RANDOM.nextInt(20);
        int lone = RANDOM.nextInt(10);
        for (int p = 1; p < words.length; p++) {
            int a = source(p, near);
            int b = RANDOM.nextInt(10) < lone ? 0 : source(p, near);
            boolean sum = p > loads && p <= loads + sums;
            words[p] = p <= loads ? Asm.lw(result(p), 0, 4 * p) : sum ? Asm.add(result(p), a, b) : Asm.lw(0, a, 0);
        }
        words[0] = Asm.beq(0, 0, words.length);
        return words;
    }

    private static int result(int p) {
        return 1 + p % 31;
    }

    private static int source(int p, int near) {
        return RANDOM.nextInt(6) == 0 ? 0 : result(Math.max(1, p - 1 - RANDOM.nextInt(near)));
    }

    private static void faults(int i) {
        int size = 1 + RANDOM.nextInt(4);
        int[] words = program(size, 31);
        int spoiled = RANDOM.nextInt(size);
        words[spoiled] = RANDOM.nextInt() & ~127 | pick(3, 15, 19, 23, 35, 51, 55, 99, 103, 111, 115, RANDOM.nextInt(128));
        if (RANDOM.nextBoolean()) {
            words[spoiled] &= ~(0xFE000000 & ~(RANDOM.nextInt(3) << 25)) | RANDOM.nextInt();
        }
        SlowModel model = new SlowModel(words);
        GuessFences x = Asm.words(words);
        int due = model.firstFault();
        Due.is("faults " + i + ": load()", x.load(), due / 10000);
        Due.is("faults " + i + ": faultAt()", x.faultAt(), due == 0 ? -1 : due % 10000);
        if (due == 0) {
            for (int what = 0; what < 6; what++) {
                decoded("faults " + i, x, model, what);
            }
        }
    }

    private static void decoded(String name, GuessFences x, SlowModel model, int what) {
        for (int p = 0; p < model.end; p++) {
            Due.is(name + ": decoded(" + p + ", " + what + ")", x.decoded(p, what), model.decoded(p, what));
        }
    }

    private static void flow(String name, int[] words) {
        SlowModel model = new SlowModel(words);
        int size = words.length;
        model.study();
        decoded(name, loaded(words, size), model, RANDOM.nextInt(6));
        if (RANDOM.nextBoolean()) {
            reaches(name, ready(words, 2 * size), model);
        }
        GuessFences x = ready(words, 2 + size);
        Due.is(name + ": check()", x.check(), model.exposed.cardinality());
        Due.is(name + ": cut()", x.cut(), model.cut.cardinality());
        for (int p = 0; p < size; p++) {
            Due.is(name + ": mark(" + p + ")", x.mark(p), model.mark(p));
        }
        reaches(name, ready(words, 2 * size), model);
        int[] due = model.rewritten();
        rewritten(name, ready(words, 2 * due.length + 3), due, model.homes());
    }

    private static void reaches(String name, GuessFences x, SlowModel model) {
        for (int k = 0; k < 2 * model.end; k++) {
            int from = RANDOM.nextInt(model.end);
            int to = RANDOM.nextInt(model.end);
            Due.is(name + ": reaches(" + from + ", " + to + ")", x.reaches(from, to), model.reaches(from, to));
        }
    }

    private static void rewritten(String name, GuessFences x, int[] due, int[] homes) {
        Due.is(name + ": rewrite()", x.rewrite(), due.length);
        for (int i = 0; i < due.length; i++) {
            Due.is(name + ": wordAt(" + i + ")", x.wordAt(i), due[i] & 0xFFFFFFFFL);
            Due.is(name + ": home(" + i + ")", x.home(i), homes[i]);
        }
        Due.is(name + ": check() anew", x.check(), 0);
        Due.is(name + ": cut() anew", x.cut(), 0);
    }

    private static void orders(String name, int[] words) {
        SlowModel model = new SlowModel(words);
        GuessFences x = loaded(words, 465);
        for (int r = 1; r <= 6; r++) {
            model.registers[r] = pick(EDGES);
            x.set(r, model.registers[r]);
        }
        for (int k = 0; k < 20; k++) {
            int address = RANDOM.nextInt();
            int v = RANDOM.nextInt();
            model.keep(address, 4, v);
            x.poke(address, v);
        }
        model.window = pick(1, 2, 5, 16, 64);
        x.window(model.window);
        int runs = 0;
        for (int k = 0; k < 130; k++) {
            if (model.open.isEmpty() && RANDOM.nextInt(8) == 0 && runs++ < 20) {
                int times = RANDOM.nextInt(5);
                Due.is(name + ": run(" + times + ")", x.run(times), model.run(times));
            }
            int order = pick(0, 0, 0, 0, 1, 2, 1, 2, 3);
            Due.is(name + ": order(" + order + ")", x.order(order), model.order(order));
            oneThing(name, x, model, k % 5);
        }
        same(name, x, model);
    }

    private static void oneThing(String name, GuessFences x, SlowModel model, int what) {
        int[] due = {model.place, model.open.size(), model.distance(), model.leaks.size()};
        if (what < 4) {
            Due.is(name + ": state(" + what + ")", x.state(what), due[what]);
        } else {
            int r = RANDOM.nextInt(7);
            Due.is(name + ": register(" + r + ")", x.register(r), model.registers[r]);
        }
    }

    /** Some 150 calls. */
    private static void same(String name, GuessFences x, SlowModel model) {
        for (int r = 0; r < 7; r++) {
            Due.is(name + ": register(" + r + ")", x.register(r), model.registers[r]);
        }
        for (int address = 0; address < 256; address += 4) {
            Due.is(name + ": peek(" + address + ")", x.peek(address), model.peek(address));
        }
        for (int i = Math.max(0, model.leaks.size() - 80); i < model.leaks.size(); i++) {
            Due.is(name + ": leak(" + i + ")", x.leak(i), model.leaks.get(i));
        }
    }

    private static void arithmetic(String name) {
        int g = pick(0, 1, 1, 32);
        int f = g == 32 ? pick(0, 5) : RANDOM.nextInt(8);
        int[] words = {Asm.reg(g, f, 3, 1, 2), Asm.branch(pick(0, 1, 4, 5, 6, 7), 1, 2, 0)};
        SlowModel model = new SlowModel(words);
        GuessFences x = loaded(words, 80);
        model.registers[1] = pick(pick(EDGES), RANDOM.nextInt());
        model.registers[2] = pick(pick(EDGES), RANDOM.nextInt());
        x.set(1, model.registers[1]);
        x.set(2, model.registers[2]);
        Due.is(name + ": run(3)", x.run(3), model.run(3));
        same(name, x, model);
    }
}
