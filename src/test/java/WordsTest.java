/** What the document's 'Terms' say of programs and words, kinds, targets and faults, sentence by sentence. */
public final class WordsTest {
    private static final int NONE = GuessFences.NONE;
    /** Rows of the offset's bit and the word's, from the document's text. */
    private static final int[][] BRANCH_BITS = {{12, 31}, {11, 7}, {10, 30}, {9, 29}, {8, 28}, {7, 27}, {6, 26}, {5, 25},
        {4, 11}, {3, 10}, {2, 9}, {1, 8}};
    private static final int[][] JUMP_BITS = {{20, 31}, {19, 19}, {18, 18}, {17, 17}, {16, 16}, {15, 15}, {14, 14}, {13, 13},
        {12, 12}, {11, 20}, {10, 30}, {9, 29}, {8, 28}, {7, 27}, {6, 26}, {5, 25}, {4, 24}, {3, 23}, {2, 22}, {1, 21}};

    public static void main(String[] args) {
        registers();
        numbersOfTwelveBits();
        numbersOfShifts();
        numbersOfUpper();
        everyForm();
        haltIsOneWord();
        fenceHasOtherBitsFree();
        branchTargets();
        jumpTargets();
        farJumps();
        firstAndLastTarget();
        theEndMoves();
        whichFault();
        theFirstFault();
        Due.end("WordsTest");
    }

    /** D 7 to 11, A 15 to 19, B 20 to 24; D is NONE if it is 0. */
    private static void registers() {
        for (int r = 0; r < 32; r++) {
            int a = (r + 7) % 32;
            int b = (r + 19) % 32;
            GuessFences x = Asm.loaded(Asm.add(r, a, b), Asm.addi(r, a, 0), Asm.upper(r, 0), Asm.lw(r, a, 0),
                    Asm.sw(b, a, 0), Asm.beq(a, b, 0));
            parts(x, 0, r == 0 ? NONE : r, a, b);
            parts(x, 1, r == 0 ? NONE : r, a, NONE);
            parts(x, 2, r == 0 ? NONE : r, NONE, NONE);
            parts(x, 3, r == 0 ? NONE : r, a, NONE);
            parts(x, 4, NONE, a, b);
            parts(x, 5, NONE, a, b);
        }
    }

    private static void parts(GuessFences x, int place, int d, int a, int b) {
        Due.is("kind " + place + ": D", x.decoded(place, 1), d);
        Due.is("kind " + place + ": A", x.decoded(place, 2), a);
        Due.is("kind " + place + ": B", x.decoded(place, 3), b);
    }

    /** From -2048 to 2047: I of IMM and LOAD, and G with D of STORE. */
    private static void numbersOfTwelveBits() {
        for (int n = -2048; n < 2048; n++) {
            GuessFences x = Asm.loaded(Asm.addi(1, 2, n), Asm.imm(7, 1, 2, n), Asm.lw(1, 2, n), Asm.sw(1, 2, n));
            for (int place = 0; place < 4; place++) {
                Due.is("number at " + place, x.decoded(place, 4), n);
            }
        }
    }

    /** B, from 0 to 31, and not what stands above it. */
    private static void numbersOfShifts() {
        for (int n = 0; n < 32; n++) {
            GuessFences x = Asm.loaded(Asm.imm(1, 1, 2, n), Asm.imm(5, 1, 2, n), Asm.imm(5, 1, 2, 32 << 5 | n));
            for (int place = 0; place < 3; place++) {
                Due.is("number of the shift at " + place, x.decoded(place, 4), n);
            }
        }
    }

    /** The word with its lowest 12 bits 0. */
    private static void numbersOfUpper() {
        int[] uppers = {0, 1, 0x7FFFF, 0x80000, 0xFFFFF, 0xABCDE};
        for (int upper : uppers) {
            GuessFences x = Asm.loaded(Asm.upper(31, upper));
            x.run(1);
            Due.is("decoded number of UPPER", x.decoded(0, 4), upper << 12);
            Due.is("result of UPPER", x.register(31), upper << 12);
        }
    }

    /** Every code, F and G, with D 0 and not, alone in a program: its kind, or its fault. */
    private static void everyForm() {
        GuessFences x = new GuessFences();
        int uses = 0;
        for (int form = 0; form < 128 * 8 * 128 * 2; form++) {
            int code = form & 127;
            int f = form >> 7 & 7;
            int g = form >> 10 & 127;
            int w = Asm.word(code, (form >> 17) * 21, f, 5, 10, g);
            if (uses++ % 100 == 0) {
                x = new GuessFences();
            }
            x.clear();
            x.word(w);
            int due = dueOf(w, code, f, g);
            Due.is("load() of " + w, x.load(), due >= 10 ? 0 : due);
            if (due >= 10) {
                Due.is("kind of " + w, x.decoded(0, 0), due - 10);
            }
        }
    }

    /** A fault, or 10 and the kind together, of a word alone in a program. */
    private static int dueOf(int w, int code, int f, int g) {
        switch (code) {
            case 51:
                return g == 0 || g == 1 || g == 32 && f == 0 || g == 32 && f == 5 ? 10 : 4;
            case 19:
                return f == 1 && g != 0 || f == 5 && g != 0 && g != 32 ? 4 : 11;
            case 55:
                return 12;
            case 3:
                return f == 3 || f == 6 || f == 7 ? 4 : 13;
            case 35:
                return f > 2 ? 4 : 14;
            case 99:
                return f == 2 || f == 3 ? 4 : isOneOf(offset(w, BRANCH_BITS), 0, 4) ? 15 : 5;
            case 111:
                return (w >> 7 & 31) != 0 ? 3 : isOneOf(offset(w, JUMP_BITS), 0, 4) ? 16 : 5;
            case 15:
                return f == 0 ? 17 : 4;
            case 103:
                return 1;
            case 23:
                return 2;
            default:
                return 4;
        }
    }

    private static boolean isOneOf(int v, int one, int other) {
        return v == one || v == other;
    }

    private static int offset(int w, int[][] bits) {
        int v = 0;
        for (int[] bit : bits) {
            v += (w >>> bit[1] & 1) * (1 << bit[0]);
        }
        return (w & 1 << 31) != 0 ? v - (2 << bits[0][0]) : v;
    }

    private static int withOffset(int w, int offset, int[][] bits) {
        int v = w;
        for (int[] bit : bits) {
            v |= (offset >>> bit[0] & 1) << bit[1];
        }
        return v;
    }

    private static void haltIsOneWord() {
        Due.is("HALT", Asm.loaded(115).decoded(0, 0), 8);
        for (int bit = 7; bit < 32; bit++) {
            Due.is("115 with bit " + bit, Asm.words(115 | 1 << bit).load(), 4);
        }
    }

    private static void fenceHasOtherBitsFree() {
        for (int bit = 7; bit < 32; bit++) {
            boolean ofF = bit >= 12 && bit <= 14;
            Due.is("15 with bit " + bit, Asm.words(15 | 1 << bit).load(), ofF ? 4 : 0);
        }
        GuessFences x = Asm.loaded(15, 267386895);
        Due.is("the word 15", x.decoded(0, 0), 7);
        Due.is("the word 267386895", x.decoded(1, 0), 7);
    }

    /** A program of 520 words with one among them that goes elsewhere. */
    private static GuessFences among520(int place, int word) {
        GuessFences x = new GuessFences();
        if (place > 0) {
            x.word(Asm.NOP);
        }
        if (place > 1) {
            x.again(1, place - 1);
        }
        x.word(word);
        if (place < 519) {
            x.word(Asm.NOP);
        }
        if (place < 518) {
            x.again(1, 518 - place);
        }
        return x;
    }

    /** Loads from 0 to the end, and nothing else. */
    private static void target(String name, int place, int word, int offset) {
        GuessFences x = among520(place, word);
        int target = place + Math.floorDiv(offset, 4);
        boolean good = Math.floorMod(offset, 4) == 0 && target >= 0 && target <= 520;
        Due.is(name + " with offset " + offset + ": load()", x.load(), good ? 0 : 5);
        Due.is(name + " with offset " + offset + ": faultAt()", x.faultAt(), good ? NONE : place);
        if (good) {
            Due.is(name + " with offset " + offset, x.decoded(place, 5), target);
        }
    }

    private static void branchTargets() {
        for (int offset = -4096; offset <= 4094; offset += 2) {
            target("branch", 260, withOffset(99 | 1 << 15 | 2 << 20, offset, BRANCH_BITS), offset);
        }
    }

    private static void jumpTargets() {
        for (int offset = -2100; offset <= 2100; offset += 2) {
            target("jump", 260, withOffset(111, offset, JUMP_BITS), offset);
        }
        target("jump", 0, withOffset(111, 2080, JUMP_BITS), 2080);
        target("jump", 0, withOffset(111, 2084, JUMP_BITS), 2084);
        target("jump", 519, withOffset(111, -2076, JUMP_BITS), -2076);
        target("jump", 519, withOffset(111, -2080, JUMP_BITS), -2080);
    }

    /** Each bit counts: with one bit of a near offset turned, the target is where that bit says. */
    private static void farJumps() {
        for (int bit = 1; bit <= 20; bit++) {
            int ahead = 8 ^ 1 << bit;
            int back = -8 ^ 1 << bit;
            target("jump", 260, withOffset(111, ahead, JUMP_BITS), bit == 20 ? ahead - (1 << 21) : ahead);
            target("jump", 260, withOffset(111, back, JUMP_BITS), bit == 20 ? back + (1 << 21) : back);
        }
        for (int bit = 1; bit <= 12; bit++) {
            int ahead = 8 ^ 1 << bit;
            int back = -8 ^ 1 << bit;
            target("branch", 260, withOffset(99, ahead, BRANCH_BITS), bit == 12 ? ahead - (1 << 13) : ahead);
            target("branch", 260, withOffset(99, back, BRANCH_BITS), bit == 12 ? back + (1 << 13) : back);
        }
    }

    /** From 0 to the end: one less than 0 and one more than the end are faults. */
    private static void firstAndLastTarget() {
        for (int place = 0; place < 3; place++) {
            for (int target = -2; target <= 5; target++) {
                int due = target >= 0 && target <= 3 ? 0 : 5;
                int[] branch = {Asm.NOP, Asm.NOP, Asm.NOP};
                int[] jump = {Asm.NOP, Asm.NOP, Asm.NOP};
                branch[place] = Asm.beq(1, 2, target - place);
                jump[place] = Asm.go(target - place);
                Due.is("branch from " + place + " to " + target, Asm.words(branch).load(), due);
                Due.is("jump from " + place + " to " + target, Asm.words(jump).load(), due);
            }
        }
    }

    /** The end is that of the program as it is when it is loaded. */
    private static void theEndMoves() {
        GuessFences x = Asm.words(Asm.beq(0, 0, 2));
        Due.is("target behind the end", x.load(), 5);
        Due.is("its place", x.faultAt(), 0);
        x.word(Asm.NOP);
        Due.is("target at the end", x.load(), 0);
        Due.is("no place", x.faultAt(), NONE);
        x.word(Asm.NOP);
        Due.is("target before the end", x.load(), 0);
        Due.is("target", x.decoded(0, 5), 2);
    }

    private static void fault(String name, int word, int due) {
        GuessFences x = Asm.words(word);
        Due.is(name, x.load(), due);
        Due.is(name + ": faultAt()", x.faultAt(), 0);
    }

    private static void whichFault() {
        fault("code 103 with all other bits", -1 & ~127 | 103, 1);
        fault("code 23 with all other bits", -1 & ~127 | 23, 2);
        fault("code 111, D 1, a good offset", Asm.go(0) | 1 << 7, 3);
        fault("code 111, D 31, a target outside", Asm.go(9) | 31 << 7, 3);
        fault("code 111, D 16, no multiple of 4", Asm.jump(2) | 16 << 7, 3);
        fault("code 111, D 0, no multiple of 4", Asm.jump(2), 5);
        fault("code 99, F 2, a good offset", Asm.branch(2, 0, 0, 0), 4);
        fault("code 99, F 3, a target outside", Asm.branch(3, 0, 0, 400), 4);
        fault("code 99, F 2, no multiple of 4", Asm.branch(2, 0, 0, 2), 4);
        fault("code 99, F 1, no multiple of 4", Asm.branch(1, 0, 0, 2), 5);
        fault("code 99, F 4, a target outside", Asm.branch(4, 0, 0, 8), 5);
        fault("the word 0", 0, 4);
        fault("the word -1", -1, 4);
    }

    private static void theFirstFault() {
        int[] faulty = {103, 23, Asm.go(0) | 1 << 7, 0, Asm.go(-9)};
        for (int i = 0; i < faulty.length; i++) {
            for (int j = 0; j < faulty.length; j++) {
                GuessFences x = Asm.words(Asm.NOP, faulty[i], Asm.NOP, faulty[j]);
                Due.is("the first of two faults", x.load(), i + 1);
                Due.is("its place", x.faultAt(), 1);
            }
        }
        GuessFences x = Asm.words(Asm.NOP);
        x.again(1, 518);
        x.word(23);
        Due.is("the last of 520 words", x.load(), 2);
        Due.is("the last of 520 words: faultAt()", x.faultAt(), 519);
    }
}
