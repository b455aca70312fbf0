/** Makes the words of instructions. */
final class Asm {
    static final int HALT = 115;
    static final int FENCE = 267386895;
    static final int NOP = 19;

    private Asm() {
    }

    static int word(int code, int d, int f, int a, int b, int g) {
        return code | d << 7 | f << 12 | a << 15 | b << 20 | g << 25;
    }

    static int reg(int g, int f, int d, int a, int b) {
        return word(51, d, f, a, b, g);
    }

    static int add(int d, int a, int b) {
        return reg(0, 0, d, a, b);
    }

    static int imm(int f, int d, int a, int i) {
        return 19 | d << 7 | f << 12 | a << 15 | i << 20;
    }

    static int addi(int d, int a, int i) {
        return imm(0, d, a, i);
    }

    static int upper(int d, int upper) {
        return 55 | d << 7 | upper << 12;
    }

    static int load(int f, int d, int a, int i) {
        return 3 | d << 7 | f << 12 | a << 15 | i << 20;
    }

    static int lw(int d, int a, int i) {
        return load(2, d, a, i);
    }

    static int store(int f, int b, int a, int i) {
        return word(35, i & 31, f, a, b, i >> 5);
    }

    static int sw(int b, int a, int i) {
        return store(2, b, a, i);
    }

    /** The offset is in bytes, as the document's. */
    static int branch(int f, int a, int b, int offset) {
        int w = word(99, 0, f, a, b, 0);
        w |= bit(offset, 12) << 31 | bit(offset, 11) << 7;
        for (int i = 5; i <= 10; i++) {
            w |= bit(offset, i) << 25 + i - 5;
        }
        for (int i = 1; i <= 4; i++) {
            w |= bit(offset, i) << 8 + i - 1;
        }
        return w;
    }

    static int beq(int a, int b, int places) {
        return branch(0, a, b, 4 * places);
    }

    static int jump(int offset) {
        int w = 111 | bit(offset, 20) << 31 | bit(offset, 11) << 20;
        for (int i = 12; i <= 19; i++) {
            w |= bit(offset, i) << i;
        }
        for (int i = 1; i <= 10; i++) {
            w |= bit(offset, i) << 21 + i - 1;
        }
        return w;
    }

    static int go(int places) {
        return jump(4 * places);
    }

    private static int bit(int v, int i) {
        return v >> i & 1;
    }

    /** A new object with these words, not loaded. */
    static GuessFences words(int... words) {
        GuessFences x = new GuessFences();
        for (int w : words) {
            x.word(w);
        }
        return x;
    }

    /** A new object with these words, loaded. */
    static GuessFences loaded(int... words) {
        GuessFences x = words(words);
        Due.is("load()", x.load(), 0);
        return x;
    }
}
