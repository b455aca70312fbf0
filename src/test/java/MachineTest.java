import java.math.BigInteger;

/** What the document's 'Terms' say of the machine, of running, of leaks and of orders, sentence by sentence. */
public final class MachineTest {
    private static final int NONE = GuessFences.NONE;
    private static final int LEAST = -2147483648;
    private static final int MOST = 2147483647;
    private static final BigInteger TWO_32 = BigInteger.ONE.shiftLeft(32);
    private static final int[] NUMBERS = {0, 1, -1, 2, -2, 7, -7, 31, 32, 33, 63, 64, 65535, 65536, MOST, MOST - 1, LEAST, LEAST + 1};
    private static final int[] ADDRESSES = {0, 1, 2, 3, 4, 252, 253, 254, 255, 256, 257, 258, 259, 511, -1, -2, -3, -4, -256,
        -257, MOST, MOST - 1, LEAST, LEAST + 1};

    public static void main(String[] args) {
        registerZero();
        loadsAtAddresses();
        storesAtAddresses();
        addressSumsWrap();
        pokesAndPeeks();
        operations();
        divisionEdges();
        numbersAsSecondOperand();
        shiftNumbers();
        branches();
        neitherHaltNorEnd();
        runTimes();
        whatLeaks();
        leaksOfRun();
        leaksOfOrders();
        runOrder();
        guessOrder();
        guessesUpTo16();
        resolveRight();
        resolveWrong();
        leaksAreNotRolledBack();
        registersOfThen();
        fenceOrder();
        windowAtFirst();
        windows();
        windowForGuesses();
        distances();
        Due.end("MachineTest");
    }

    private static long pair(int sort, int number) {
        return sort * 4294967296L + (number & 0xFFFFFFFFL);
    }

    /** Results into register 0 are none, whatever makes them. */
    private static void registerZero() {
        GuessFences x = Asm.loaded(Asm.addi(0, 0, 7), Asm.upper(0, 7), Asm.lw(0, 0, 0), Asm.add(0, 1, 1),
                Asm.reg(1, 4, 0, 1, 1), Asm.add(2, 0, 0), Asm.sw(0, 0, 4));
        x.set(1, 5);
        x.set(2, 6);
        x.poke(0, 9);
        x.poke(4, 9);
        for (int i = 0; i < 5; i++) {
            x.run(1);
            Due.is("register(0) behind place " + i, x.register(0), 0);
        }
        x.run(2);
        Due.is("register 0 as an operand", x.register(2), 0);
        Due.is("register 0 stored", x.peek(4), 0);
    }

    private static int start(int address, int bytes) {
        int lowest = Math.floorMod(address, 256);
        return lowest - lowest % bytes;
    }

    private static int byteAt(int i) {
        return (i * 37 + 129) % 256;
    }

    private static GuessFences withBytes(int... words) {
        GuessFences x = Asm.loaded(words);
        for (int i = 0; i < 256; i += 4) {
            x.poke(i, byteAt(i) | byteAt(i + 1) << 8 | byteAt(i + 2) << 16 | byteAt(i + 3) << 24);
        }
        return x;
    }

    /** The lowest eight bits count, a half's lowest bit and a word's lowest two are taken as 0. */
    private static void loadsAtAddresses() {
        int[] forms = {0, 1, 2, 4, 5};
        for (int f : forms) {
            for (int address : ADDRESSES) {
                GuessFences x = withBytes(Asm.load(f, 1, 2, 0));
                x.set(2, address);
                x.run(1);
                int bytes = f == 0 || f == 4 ? 1 : f == 2 ? 4 : 2;
                long due = 0;
                for (int i = 0; i < bytes; i++) {
                    due += (long) byteAt(start(address, bytes) + i) << 8 * i;
                }
                boolean negative = f <= 2 && due >= 1L << 8 * bytes - 1;
                Due.is("load F " + f + " at " + address, x.register(1), negative ? due - (1L << 8 * bytes) : due);
                Due.is("the whole address leaks", x.leak(0), pair(1, address));
            }
        }
    }

    private static void storesAtAddresses() {
        for (int f = 0; f < 3; f++) {
            for (int address : ADDRESSES) {
                GuessFences x = withBytes(Asm.store(f, 1, 2, 0));
                x.set(1, 0x89ABCDEF);
                x.set(2, address);
                x.run(1);
                int first = start(address, 1 << f);
                for (int i = 0; i < 256; i++) {
                    boolean stored = i >= first && i < first + (1 << f);
                    int due = stored ? 0x89ABCDEF >>> 8 * (i - first) & 255 : byteAt(i);
                    if (i % 4 == first % 4 || stored) {
                        Due.is("store F " + f + " at " + address + ", byte " + i, x.peek(i) >>> 8 * (i % 4) & 255, due);
                    }
                }
                Due.is("the whole address leaks", x.leak(0), pair(2, address));
            }
        }
    }

    private static void addressSumsWrap() {
        GuessFences x = Asm.loaded(Asm.lw(1, 2, 1), Asm.sw(3, 4, -1), Asm.load(4, 1, 0, -1), Asm.load(4, 1, 0, 2047));
        x.set(2, MOST);
        x.set(3, 77);
        x.set(4, LEAST);
        x.run(4);
        Due.is("2147483647 and 1", x.leak(0), pair(1, LEAST));
        Due.is("-2147483648 and -1", x.leak(1), pair(2, MOST));
        Due.is("where that is", x.peek(252), 77);
        Due.is("0 and -1", x.leak(2), pair(1, -1));
        Due.is("0 and 2047", x.leak(3), pair(1, 2047));
    }

    private static void pokesAndPeeks() {
        for (int address : ADDRESSES) {
            GuessFences x = Asm.loaded();
            x.poke(address, 0x80FF7F01);
            int first = start(address, 4);
            for (int i = 0; i < 256; i++) {
                Due.is("poke at " + address + ", peek at " + i, x.peek(i), i - i % 4 == first ? 0x80FF7F01 : 0);
            }
            Due.is("poke and peek at " + address, x.peek(address), 0x80FF7F01);
        }
    }

    private static BigInteger signed(int v) {
        return BigInteger.valueOf(v);
    }

    private static BigInteger unsigned(int v) {
        return signed(v).mod(TWO_32);
    }

    /** The document's words over numbers without bounds; the lowest 32 bits are what a register has. */
    private static int due(int g, int f, int a, int b) {
        int by = b & 31;
        if (g == 32) {
            return (f == 0 ? signed(a).subtract(signed(b)) : signed(a).shiftRight(by)).intValue();
        }
        if (g == 1) {
            return dueOfProduct(f, a, b);
        }
        switch (f) {
            case 0:
                return signed(a).add(signed(b)).intValue();
            case 1:
                return signed(a).shiftLeft(by).intValue();
            case 2:
                return signed(a).compareTo(signed(b)) < 0 ? 1 : 0;
            case 3:
                return unsigned(a).compareTo(unsigned(b)) < 0 ? 1 : 0;
            case 4:
                return signed(a).xor(signed(b)).intValue();
            case 5:
                return unsigned(a).shiftRight(by).intValue();
            case 6:
                return signed(a).or(signed(b)).intValue();
            default:
                return signed(a).and(signed(b)).intValue();
        }
    }

    private static int dueOfProduct(int f, int a, int b) {
        switch (f) {
            case 0:
                return signed(a).multiply(signed(b)).intValue();
            case 1:
                return signed(a).multiply(signed(b)).shiftRight(32).intValue();
            case 2:
                return signed(a).multiply(unsigned(b)).shiftRight(32).intValue();
            case 3:
                return unsigned(a).multiply(unsigned(b)).shiftRight(32).intValue();
            case 4:
                return b == 0 ? -1 : signed(a).divide(signed(b)).intValue();
            case 5:
                return b == 0 ? -1 : unsigned(a).divide(unsigned(b)).intValue();
            case 6:
                return b == 0 ? a : signed(a).remainder(signed(b)).intValue();
            default:
                return b == 0 ? a : unsigned(a).remainder(unsigned(b)).intValue();
        }
    }

    private static void operations() {
        for (int g = 0; g <= 32; g += g == 0 ? 1 : 31) {
            for (int f = 0; f < 8; f++) {
                if (g != 32 || f == 0 || f == 5) {
                    operation(g, f);
                }
            }
        }
    }

    private static void operation(int g, int f) {
        for (int a : NUMBERS) {
            GuessFences x = Asm.loaded(Asm.reg(g, f, 3, 1, 2));
            for (int b : NUMBERS) {
                x.load();
                x.set(1, a);
                x.set(2, b);
                x.run(1);
                Due.is("G " + g + " F " + f + " of " + a + ", " + b, x.register(3), due(g, f, a, b));
            }
        }
    }

    private static void divides(int f, int a, int b, int due) {
        GuessFences x = Asm.loaded(Asm.reg(1, f, 3, 1, 2));
        x.set(1, a);
        x.set(2, b);
        x.run(1);
        Due.is("division F " + f + " of " + a + " by " + b, x.register(3), due);
        Due.is("its first operand", x.leak(0), pair(3, a));
        Due.is("its second operand", x.leak(1), pair(4, b));
        Due.is("no more", x.state(3), 2);
    }

    /** The numbers that the document writes out, and those next to them. */
    private static void divisionEdges() {
        divides(4, 5, 0, -1);
        divides(4, LEAST, 0, -1);
        divides(4, 0, 0, -1);
        divides(5, 5, 0, -1);
        divides(5, -5, 0, -1);
        divides(6, 5, 0, 5);
        divides(6, LEAST, 0, LEAST);
        divides(7, 5, 0, 5);
        divides(7, -5, 0, -5);
        divides(4, LEAST, -1, LEAST);
        divides(6, LEAST, -1, 0);
        divides(4, LEAST + 1, -1, MOST);
        divides(6, LEAST + 1, -1, 0);
        divides(4, LEAST, -2, 1 << 30);
        divides(4, LEAST, 1, LEAST);
        divides(5, LEAST, -1, 0);
        divides(7, LEAST, -1, LEAST);
        divides(5, -1, LEAST, 1);
        divides(4, -7, 2, -3);
        divides(4, 7, -2, -3);
        divides(4, -7, -2, 3);
        divides(6, -7, 2, -1);
        divides(6, 7, -2, 1);
        divides(6, -7, -2, -1);
    }

    private static void numbersAsSecondOperand() {
        int[] forms = {0, 2, 3, 4, 6, 7};
        int[] numbers = {-2048, -2047, -1, 0, 1, 2046, 2047};
        for (int f : forms) {
            for (int a : NUMBERS) {
                for (int i : numbers) {
                    GuessFences x = Asm.loaded(Asm.imm(f, 3, 1, i));
                    x.set(1, a);
                    x.run(1);
                    Due.is("IMM F " + f + " of " + a + ", " + i, x.register(3), due(0, f, a, i));
                }
            }
        }
    }

    private static void shiftNumbers() {
        for (int a : NUMBERS) {
            GuessFences x = Asm.words();
            for (int by = 0; by < 32; by++) {
                x.word(Asm.imm(1, 3, 1, by));
                x.word(Asm.imm(5, 4, 1, by));
                x.word(Asm.imm(5, 5, 1, 32 << 5 | by));
            }
            x.load();
            x.set(1, a);
            for (int by = 0; by < 32; by++) {
                x.run(3);
                Due.is(a + " left by " + by, x.register(3), due(0, 1, a, by));
                Due.is(a + " right by " + by, x.register(4), due(0, 5, a, by));
                Due.is(a + " right by " + by + " with its sign", x.register(5), due(32, 5, a, by));
            }
        }
    }

    private static boolean holds(int f, int a, int b) {
        int order = (f >= 6 ? unsigned(a).compareTo(unsigned(b)) : signed(a).compareTo(signed(b)));
        boolean even = f == 0 ? order == 0 : f == 1 ? order == 0 : order < 0;
        return (f & 1) == 0 ? even : !even;
    }

    private static void branches() {
        int[] forms = {0, 1, 4, 5, 6, 7};
        for (int f : forms) {
            for (int a : NUMBERS) {
                GuessFences x = Asm.loaded(Asm.branch(f, 1, 2, 8), Asm.HALT, Asm.HALT);
                for (int b : NUMBERS) {
                    x.load();
                    x.set(1, a);
                    x.set(2, b);
                    x.run(1);
                    int due = holds(f, a, b) ? 2 : 1;
                    Due.is("branch F " + f + " of " + a + ", " + b, x.state(0), due);
                    Due.is("where it goes leaks", x.leak(0), pair(0, due));
                }
            }
        }
    }

    private static void neitherHaltNorEnd() {
        GuessFences halt = Asm.loaded(Asm.NOP, Asm.HALT, Asm.NOP);
        Due.is("run up to HALT", halt.run(1000), 1);
        Due.is("run at HALT", halt.run(1), 0);
        Due.is("order at HALT", halt.order(0), NONE);
        Due.is("place of HALT", halt.state(0), 1);
        GuessFences end = Asm.loaded(Asm.NOP, Asm.go(1));
        Due.is("run up to the end", end.run(1000), 2);
        Due.is("run at the end", end.run(1), 0);
        Due.is("order at the end", end.order(0), NONE);
        Due.is("place of the end", end.state(0), 2);
        GuessFences none = Asm.loaded();
        Due.is("run of no words", none.run(1000), 0);
        Due.is("order of no words", none.order(0), NONE);
        Due.is("place", none.state(0), 0);
        GuessFences full = Asm.words(Asm.NOP);
        full.again(1, 519);
        full.load();
        Due.is("520 words", full.run(1000), 520);
        Due.is("the end of 520 words", full.state(0), 520);
    }

    private static void runTimes() {
        GuessFences x = Asm.loaded(Asm.addi(1, 1, 1), Asm.addi(1, 1, 1), Asm.addi(1, 1, 1), Asm.beq(0, 0, -3));
        Due.is("run(0)", x.run(0), 0);
        Due.is("nothing ran", x.register(1), 0);
        Due.is("place", x.state(0), 0);
        Due.is("run(1)", x.run(1), 1);
        Due.is("one ran", x.register(1), 1);
        Due.is("run(999)", x.run(999), 999);
        Due.is("run(1000)", x.run(1000), 1000);
        Due.is("2000 ran", x.register(1), 1500);
        Due.argument("run(1001)", () -> x.run(1001));
        Due.argument("run(-1)", () -> x.run(-1));
        Due.is("none more", x.register(1), 1500);
    }

    private static void whatLeaks() {
        GuessFences x = Asm.loaded(Asm.NOP, Asm.upper(1, 3), Asm.FENCE, Asm.reg(1, 0, 2, 1, 1), Asm.reg(1, 3, 2, 1, 1));
        x.run(5);
        Due.is("nothing of REG, IMM, UPPER, FENCE", x.state(3), 0);
        GuessFences y = Asm.loaded(Asm.go(1), Asm.beq(0, 0, 1), Asm.branch(1, 0, 0, 4), Asm.reg(1, 4, 0, 1, 2), Asm.lw(0, 1, -1),
                Asm.sw(2, 1, 1), Asm.reg(1, 5, 1, 1, 2), Asm.reg(1, 6, 2, 2, 2), Asm.reg(1, 7, 3, 2, 1), Asm.go(-9));
        y.set(1, 40);
        y.set(2, -3);
        y.run(10);
        long[] due = {pair(0, 1), pair(0, 2), pair(0, 3), pair(3, 40), pair(4, -3), pair(1, 39), pair(2, 41), pair(3, 40),
            pair(4, -3), pair(3, -3), pair(4, -3), pair(3, 0), pair(4, 0), pair(0, 0)};
        for (int i = 0; i < due.length; i++) {
            Due.is("leak(" + i + ")", y.leak(i), due[i]);
        }
        Due.is("no more", y.leak(due.length), NONE);
        Due.is("how many", y.state(3), due.length);
    }

    /** With 2046 pairs there is room for one more instruction, whatever it leaks; with 2047 for none. */
    private static void leaksOfRun() {
        int[] last = {Asm.NOP, Asm.lw(1, 0, 0), Asm.reg(1, 4, 1, 2, 3)};
        for (int leaks = 0; leaks < 3; leaks++) {
            GuessFences x = Asm.loaded(Asm.go(0), last[leaks], Asm.NOP);
            GuessFences y = Asm.loaded(Asm.branch(0, 1, 0, 0), last[leaks], Asm.NOP);
            y.run(1000);
            y.run(1000);
            y.run(45);
            Due.is("pairs", y.state(3), 2045);
            y.set(1, 1);
            Due.is("with 2045", y.run(1), 1);
            Due.is("with 2046", y.run(1), 1);
            Due.is("pairs then", y.state(3), 2046 + leaks);
            Due.is("with " + (2046 + leaks), y.run(1), leaks == 0 ? 1 : 0);
            x.run(1000);
            x.run(1000);
            Due.is("from 2000 on", x.run(1000), 47);
            Due.is("no more", x.run(1000), 0);
            Due.is("the last pair", x.leak(2046), pair(0, 0));
            Due.is("behind it", x.leak(2047), NONE);
        }
    }

    private static GuessFences with2046() {
        GuessFences x = Asm.loaded(Asm.branch(0, 1, 0, 0), Asm.reg(1, 4, 2, 3, 4), Asm.branch(1, 0, 0, 4), Asm.NOP, Asm.lw(1, 0, 0));
        x.run(1000);
        x.run(1000);
        x.run(45);
        x.set(1, 1);
        x.run(1);
        Due.is("2046 pairs", x.state(3), 2046);
        return x;
    }

    private static void leaksOfOrders() {
        GuessFences x = with2046();
        Due.is("RUN with 2046: a division", x.order(0), 0);
        Due.is("2048 pairs", x.state(3), 2048);
        Due.is("the last one", x.leak(2047), pair(4, 0));
        Due.is("GUESS with 2048", x.order(1), 0);
        Due.is("RUN with 2048", x.order(0), NONE);
        Due.is("RESOLVE with 2048", x.order(3), NONE);
        Due.is("still unresolved", x.state(1), 1);
        Due.is("forget()", x.forget(), 2048);
        Due.is("RUN then", x.order(0), 0);
        Due.is("RESOLVE then", x.order(3), 1);
        GuessFences y = Asm.loaded(Asm.branch(0, 1, 0, 0), Asm.branch(1, 0, 0, 4), Asm.NOP);
        y.run(1000);
        y.run(1000);
        y.run(45);
        y.set(1, 1);
        y.run(1);
        y.order(1);
        Due.is("RESOLVE with 2046", y.order(3), 1);
        Due.is("2047 pairs", y.state(3), 2047);
        Due.is("what it leaked", y.leak(2046), pair(0, 2));
        Due.is("RUN with 2047, though nothing would leak", y.order(0), NONE);
        Due.is("forget()", y.forget(), 2047);
        Due.is("RUN then", y.order(0), 0);
    }

    /** All kinds but a branch and HALT, with no branch unresolved and with one. */
    private static void runOrder() {
        int[] good = {Asm.add(1, 1, 1), Asm.NOP, Asm.upper(1, 1), Asm.lw(1, 1, 0), Asm.sw(1, 1, 0), Asm.go(1)};
        for (int w : good) {
            GuessFences x = Asm.loaded(w, Asm.NOP);
            Due.is("RUN of " + w, x.order(0), 0);
            Due.is("place behind " + w, x.state(0), 1);
            GuessFences y = Asm.loaded(Asm.beq(1, 0, 2), w, Asm.NOP);
            y.order(1);
            Due.is("RUN of " + w + " on a guess", y.order(0), 0);
            Due.is("place behind " + w, y.state(0), 2);
        }
        GuessFences x = Asm.loaded(Asm.beq(0, 0, 2), Asm.beq(0, 0, 1), Asm.HALT);
        Due.is("RUN at a branch", x.order(0), NONE);
        x.order(1);
        Due.is("RUN at a branch on a guess", x.order(0), NONE);
        x.order(3);
        Due.is("RUN at HALT", x.order(0), NONE);
    }

    private static void guessOrder() {
        int[] forms = {0, 1, 4, 5, 6, 7};
        for (int f : forms) {
            GuessFences x = Asm.loaded(Asm.branch(f, 1, 2, 8), Asm.NOP, Asm.NOP);
            Due.is("GUESS on", x.order(1), 0);
            Due.is("it goes on", x.state(0), 1);
            Due.is("unresolved", x.state(1), 1);
            Due.is("nothing leaks", x.state(3), 0);
            x.load();
            Due.is("GUESS the target", x.order(2), 0);
            Due.is("it goes there", x.state(0), 2);
            Due.is("nothing leaks", x.state(3), 0);
        }
        int[] others = {Asm.add(1, 1, 1), Asm.NOP, Asm.upper(1, 1), Asm.lw(1, 1, 0), Asm.sw(1, 1, 0), Asm.go(1), Asm.FENCE, Asm.HALT};
        for (int w : others) {
            GuessFences x = Asm.loaded(w);
            Due.is("GUESS on at " + w, x.order(1), NONE);
            Due.is("GUESS the target at " + w, x.order(2), NONE);
            Due.is("place", x.state(0), 0);
        }
    }

    /** The 16th guess is taken and the 17th is not, and there is room again behind a resolved one. */
    private static void guessesUpTo16() {
        GuessFences x = Asm.loaded(Asm.beq(0, 0, 0));
        x.window(64);
        for (int i = 1; i <= 16; i++) {
            Due.is("GUESS " + i, x.order(2), 0);
            Due.is("unresolved", x.state(1), i);
        }
        for (int i = 0; i < 3; i++) {
            Due.is("GUESS 17, the target", x.order(2), NONE);
            Due.is("GUESS 17, on", x.order(1), NONE);
            Due.is("RESOLVE", x.order(3), 1);
            Due.is("15 unresolved", x.state(1), 15);
            Due.is("GUESS again", x.order(2), 0);
            Due.is("16 unresolved", x.state(1), 16);
        }
        for (int i = 15; i >= 0; i--) {
            Due.is("RESOLVE", x.order(3), 1);
            Due.is("unresolved", x.state(1), i);
        }
        Due.is("RESOLVE of none", x.order(3), NONE);
    }

    private static void resolveRight() {
        GuessFences x = Asm.loaded(Asm.beq(0, 0, 2), Asm.HALT, Asm.addi(1, 0, 4), Asm.sw(1, 0, 4));
        x.order(2);
        x.order(0);
        x.order(0);
        Due.is("right", x.order(3), 1);
        Due.is("unresolved no more", x.state(1), 0);
        Due.is("register(1) stays", x.register(1), 4);
        Due.is("peek(4) stays", x.peek(4), 4);
        Due.is("the place stays", x.state(0), 4);
        Due.is("leaked first", x.leak(0), pair(2, 4));
        Due.is("where it ought to have gone", x.leak(1), pair(0, 2));
        Due.is("no more", x.state(3), 2);
    }

    /** The oldest first; a wrong one takes the younger ones with it. */
    private static void resolveWrong() {
        GuessFences x = Asm.loaded(Asm.addi(1, 0, 4), Asm.beq(0, 0, 1), Asm.beq(1, 0, 3), Asm.addi(1, 1, 9), Asm.sw(1, 0, 4),
                Asm.beq(1, 1, 1), Asm.lw(2, 1, 0));
        x.poke(4, 1);
        x.run(1);
        x.order(2);
        x.order(1);
        x.order(0);
        x.order(0);
        x.order(1);
        x.order(0);
        Due.is("three unresolved", x.state(1), 3);
        Due.is("the first was right", x.order(3), 1);
        Due.is("the second was right", x.order(3), 1);
        x.load();
        x.poke(4, 1);
        x.run(1);
        x.order(2);
        x.order(2);
        Due.is("at the third", x.state(0), 5);
        x.order(2);
        x.order(0);
        Due.is("the first was right", x.order(3), 1);
        Due.is("two unresolved", x.state(1), 2);
        Due.is("the second was wrong", x.order(3), 2);
        Due.is("none unresolved", x.state(1), 0);
        Due.is("where it ought to have gone", x.state(0), 3);
        Due.is("register(2) as then", x.register(2), 0);
        Due.is("register(1) as then", x.register(1), 4);
        Due.is("the load's leak stays", x.leak(0), pair(1, 4));
        Due.is("the first one's leak", x.leak(1), pair(0, 2));
        Due.is("the second one's leak", x.leak(2), pair(0, 3));
        Due.is("RESOLVE of none", x.order(3), NONE);
        Due.is("run() is allowed again", View.answerOf(() -> x.run(1)), "1");
        x.set(3, 3);
        Due.is("register(3)", x.register(3), 3);
    }

    /** What leaked stays, and what was forgotten on the guess does not come back. */
    private static void leaksAreNotRolledBack() {
        GuessFences x = Asm.loaded(Asm.lw(1, 0, 4), Asm.beq(0, 0, 3), Asm.lw(1, 0, 8), Asm.lw(1, 0, 12));
        x.run(1);
        x.order(1);
        x.order(0);
        x.order(0);
        Due.is("RESOLVE", x.order(3), 2);
        long[] due = {pair(1, 4), pair(1, 8), pair(1, 12), pair(0, 4), NONE};
        for (int i = 0; i < due.length; i++) {
            Due.is("leak(" + i + ")", x.leak(i), due[i]);
        }
        x.load();
        x.run(1);
        x.order(1);
        x.order(0);
        Due.is("forget() on a guess", x.forget(), 2);
        x.order(0);
        Due.is("RESOLVE", x.order(3), 2);
        Due.is("behind forget()", x.leak(0), pair(1, 12));
        Due.is("where it ought to have gone", x.leak(1), pair(0, 4));
        Due.is("no more", x.state(3), 2);
    }

    /** What a register becomes behind the branch does not change where it ought to have gone. */
    private static void registersOfThen() {
        GuessFences x = Asm.loaded(Asm.beq(1, 0, 2), Asm.addi(1, 0, 1), Asm.addi(1, 1, 1), Asm.sw(1, 0, 0));
        x.order(2);
        x.order(0);
        x.order(0);
        Due.is("equal then", x.order(3), 1);
        Due.is("register(1) stays", x.register(1), 1);
        x.load();
        x.order(1);
        x.order(0);
        x.order(0);
        x.order(0);
        Due.is("peek(0) on the guess", x.peek(0), 2);
        Due.is("not equal now, equal then", x.order(3), 2);
        Due.is("register(1) as then", x.register(1), 0);
        Due.is("peek(0) as then", x.peek(0), 0);
    }

    private static void fenceOrder() {
        GuessFences x = Asm.loaded(Asm.FENCE, Asm.beq(0, 0, 1), Asm.FENCE, Asm.beq(0, 0, 1), Asm.FENCE, Asm.NOP);
        Due.is("a fence with none unresolved", x.order(0), 0);
        x.order(2);
        Due.is("a fence with one unresolved", x.order(0), NONE);
        Due.is("place", x.state(0), 2);
        x.order(3);
        Due.is("a fence behind it", x.order(0), 0);
        Due.is("run() runs fences", x.run(9), 3);
    }

    private static GuessFences longRow() {
        GuessFences x = Asm.words(Asm.branch(1, 0, 0, 8), Asm.addi(1, 1, 1));
        x.again(1, 99);
        x.load();
        return x;
    }

    private static void windowAtFirst() {
        GuessFences x = longRow();
        x.order(1);
        for (int i = 1; i <= 16; i++) {
            Due.is("RUN " + i, x.order(0), 0);
            Due.is("distance", x.state(2), i);
        }
        Due.is("RUN 17", x.order(0), NONE);
        Due.is("distance", x.state(2), 16);
        Due.is("window()", x.window(17), 16);
        Due.is("RUN 17 in a window of 17", x.order(0), 0);
        Due.is("RUN 18", x.order(0), NONE);
        Due.is("RESOLVE", x.order(3), 1);
        Due.is("with none unresolved it is free", x.order(0), 0);
        Due.is("distance", x.state(2), 0);
    }

    /** Each window from 1 to 64: as many as it says, and no more; a smaller one stops at once. */
    private static void windows() {
        for (int window = 1; window <= 64; window++) {
            GuessFences x = longRow();
            x.window(window);
            x.order(1);
            for (int i = 1; i <= window; i++) {
                Due.is("RUN " + i + " of " + window, x.order(0), 0);
            }
            Due.is("RUN behind " + window, x.order(0), NONE);
            Due.is("distance", x.state(2), window);
            x.window(1);
            Due.is("in a window of 1", x.order(0), NONE);
            Due.is("RESOLVE is free", x.order(3), 1);
            Due.is("RUN then", x.order(0), 0);
            x.load();
            Due.is("load() leaves the window", x.window(2), 1);
        }
    }

    private static void windowForGuesses() {
        GuessFences x = Asm.loaded(Asm.beq(0, 0, 0));
        x.window(3);
        for (int i = 0; i < 4; i++) {
            Due.is("GUESS " + i, x.order(2), 0);
            Due.is("distance", x.state(2), i);
        }
        Due.is("GUESS at distance 3", x.order(2), NONE);
        Due.is("GUESS at distance 3", x.order(1), NONE);
        Due.is("RESOLVE", x.order(3), 1);
        Due.is("distance", x.state(2), 2);
        Due.is("GUESS at distance 2", x.order(2), 0);
        Due.is("GUESS at distance 3", x.order(2), NONE);
    }

    /** Behind the oldest unresolved branch: the next one counts when the oldest is resolved. */
    private static void distances() {
        int never = Asm.branch(1, 0, 0, 8);
        GuessFences x = Asm.loaded(Asm.NOP, never, Asm.NOP, Asm.NOP, never, Asm.NOP, never, Asm.NOP);
        int[] orders = {0, 1, 0, 0, 1, 0, 1, 0, 3, 3, 3};
        int[] due = {0, 0, 1, 2, 3, 4, 5, 6, 3, 1, 0};
        for (int i = 0; i < orders.length; i++) {
            x.order(orders[i]);
            Due.is("distance behind order " + i, x.state(2), due[i]);
        }
        x.load();
        x.order(0);
        x.order(1);
        Due.is("load() ends it", x.state(2) + x.load() + x.state(2) + x.state(1), 0);
    }
}
