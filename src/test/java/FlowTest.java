/** What the document's 'Terms' say of flow, of the cut and of writing anew, sentence by sentence. */
public final class FlowTest {
    private static final int NONE = GuessFences.NONE;
    private static final int SEVEN = Asm.addi(7, 0, 1);

    public static void main(String[] args) {
        nextOnes();
        nextOnesAtTheEdges();
        ways();
        onGuess();
        usesRegisters();
        resultsBetween();
        fencesBetween();
        reachesItself();
        noResult();
        noResultReachesNothing();
        farApart();
        reachesAllOver();
        taintedLoads();
        taintedResults();
        betraysRegisters();
        exposedByItsRegister();
        nothingToCut();
        fewestResults();
        fewestTainted();
        fenceBehindEach();
        sameTargets();
        everyOffset();
        fartherBranches();
        fartherJumps();
        upTo1040Words();
        Due.end("FlowTest");
    }

    private static void reach(String name, boolean due, int... words) {
        GuessFences x = Asm.loaded(words);
        Due.is(name, x.reaches(0, words.length - 1), due);
    }

    /** From the first instruction to the last one over what stands between. */
    private static void nextOnes() {
        int use = Asm.sw(7, 0, 0);
        reach("REG goes on", true, SEVEN, Asm.add(1, 2, 3), use);
        reach("IMM goes on", true, SEVEN, Asm.NOP, use);
        reach("UPPER goes on", true, SEVEN, Asm.upper(1, 7), use);
        reach("LOAD goes on", true, SEVEN, Asm.lw(1, 2, 0), use);
        reach("STORE goes on", true, SEVEN, Asm.sw(1, 2, 0), use);
        reach("BRANCH goes on, though it always holds", true, SEVEN, Asm.beq(0, 0, 2), use);
        reach("BRANCH goes to its target, though it never holds", true, SEVEN, Asm.branch(1, 0, 0, 8), Asm.HALT, use);
        reach("JUMP goes to its target", true, SEVEN, Asm.go(2), Asm.FENCE, use);
        reach("JUMP goes to its target alone", false, SEVEN, Asm.go(2), use);
        reach("JUMP back goes back", false, SEVEN, Asm.go(0), use);
        reach("HALT has none", false, SEVEN, Asm.HALT, use);
    }

    /** There is nothing at the end, and nothing behind the last instruction. */
    private static void nextOnesAtTheEdges() {
        GuessFences x = Asm.loaded(Asm.sw(7, 0, 0), SEVEN);
        Due.is("the last one reaches nothing", x.reaches(1, 0), false);
        GuessFences y = Asm.loaded(Asm.sw(7, 0, 0), SEVEN, Asm.beq(0, 0, 1));
        Due.is("a branch to the end", y.reaches(1, 0), false);
        GuessFences z = Asm.loaded(Asm.sw(7, 0, 0), SEVEN, Asm.go(1));
        Due.is("a jump to the end", z.reaches(1, 0), false);
        GuessFences v = Asm.loaded(Asm.sw(7, 0, 0), SEVEN, Asm.beq(0, 0, -2));
        Due.is("a branch to the first one", v.reaches(1, 0), true);
        GuessFences w = Asm.words(Asm.sw(7, 0, 0), Asm.beq(0, 0, 519), Asm.NOP);
        w.again(1, 516);
        w.word(SEVEN);
        Due.is("520 words", w.load(), 0);
        Due.is("the last of 520", w.reaches(519, 0), false);
        Due.is("at the last of 520", w.mark(519), 1);
    }

    private static void ways() {
        GuessFences alone = Asm.loaded(Asm.addi(7, 7, 1));
        Due.is("one instruction is no way", alone.reaches(0, 0), false);
        GuessFences loop = Asm.loaded(Asm.addi(7, 7, 1), Asm.go(-1));
        Due.is("round a loop is one", loop.reaches(0, 0), true);
        GuessFences branch = Asm.loaded(Asm.beq(0, 0, 1));
        Due.is("a branch alone does not run on a guess", branch.mark(0), 0);
        GuessFences self = Asm.loaded(Asm.beq(0, 0, 0));
        Due.is("a branch to itself does", self.mark(0), 1);
        GuessFences backwards = Asm.loaded(Asm.sw(7, 0, 0), Asm.addi(7, 0, 1), Asm.HALT);
        Due.is("no way back", backwards.reaches(1, 0), false);
    }

    private static void marks(String name, GuessFences x, int... due) {
        for (int p = 0; p < due.length; p++) {
            Due.is(name + ": mark(" + p + ")", x.mark(p), due[p]);
        }
    }

    private static void onGuess() {
        int branch = Asm.beq(1, 2, 0);
        marks("no branch", Asm.loaded(Asm.NOP, Asm.go(-1)), 0, 0);
        marks("up to a fence", Asm.loaded(Asm.beq(1, 2, 4), Asm.NOP, Asm.FENCE, Asm.NOP), 0, 1, 1, 0);
        marks("a fence at once", Asm.loaded(Asm.beq(1, 2, 3), Asm.FENCE, Asm.NOP), 0, 1, 0);
        marks("a fence at the target", Asm.loaded(Asm.beq(1, 2, 3), Asm.NOP, Asm.HALT, Asm.FENCE, Asm.NOP), 0, 1, 1, 1, 0);
        marks("over the fence", Asm.loaded(Asm.beq(1, 2, 2), Asm.FENCE, Asm.NOP), 0, 1, 1);
        marks("behind HALT", Asm.loaded(Asm.beq(1, 2, 3), Asm.HALT, Asm.NOP), 0, 1, 0);
        marks("behind a jump", Asm.loaded(Asm.beq(1, 2, 4), Asm.go(2), Asm.NOP, Asm.NOP), 0, 1, 0, 1);
        marks("before the branch", Asm.loaded(Asm.NOP, Asm.beq(1, 2, 1)), 0, 0);
        marks("back round", Asm.loaded(Asm.NOP, Asm.beq(1, 2, -1)), 1, 1);
        marks("back to a fence", Asm.loaded(Asm.FENCE, Asm.NOP, Asm.beq(1, 2, -2)), 1, 0, 0);
        marks("a branch behind a fence", Asm.loaded(Asm.FENCE, branch, Asm.NOP), 0, 1, 1);
    }

    private static void uses(String name, boolean due, int word) {
        reach(name, due, SEVEN, word);
    }

    private static void usesRegisters() {
        uses("REG: A", true, Asm.add(1, 7, 2));
        uses("REG: B", true, Asm.add(1, 2, 7));
        uses("REG: not D", false, Asm.add(7, 1, 2));
        uses("REG: a division", true, Asm.reg(1, 7, 0, 1, 7));
        uses("IMM: A", true, Asm.addi(1, 7, 0));
        uses("IMM: not D", false, Asm.addi(7, 1, 0));
        uses("IMM: not what stands at B", false, Asm.addi(1, 2, 7));
        uses("IMM: not the number of a shift", false, Asm.imm(5, 1, 2, 7));
        uses("UPPER: nothing", false, Asm.word(55, 7, 0, 7, 7, 0));
        uses("LOAD: A", true, Asm.lw(1, 7, 0));
        uses("LOAD: not D", false, Asm.lw(7, 1, 0));
        uses("LOAD: not what stands at B", false, Asm.lw(1, 2, 7));
        uses("STORE: A", true, Asm.sw(1, 7, 0));
        uses("STORE: B", true, Asm.sw(7, 1, 0));
        uses("STORE: not what stands at D", false, Asm.sw(1, 2, 7));
        uses("BRANCH: A", true, Asm.beq(7, 1, 0));
        uses("BRANCH: B", true, Asm.beq(1, 7, 0));
        uses("BRANCH: neither", false, Asm.beq(1, 2, 0));
        uses("JUMP: nothing", false, Asm.go(0));
        uses("FENCE: nothing", false, Asm.word(15, 7, 0, 7, 7, 0));
        uses("HALT: nothing", false, Asm.HALT);
    }

    private static void resultsBetween() {
        int use = Asm.sw(7, 0, 0);
        reach("REG with that result", false, SEVEN, Asm.add(7, 1, 1), use);
        reach("IMM with that result", false, SEVEN, Asm.addi(7, 7, 1), use);
        reach("UPPER with that result", false, SEVEN, Asm.upper(7, 1), use);
        reach("LOAD with that result", false, SEVEN, Asm.lw(7, 1, 0), use);
        reach("another result", true, SEVEN, Asm.add(8, 7, 7), use);
        reach("STORE with 7 at D has none", true, SEVEN, Asm.sw(1, 0, 7), use);
        reach("BRANCH with 4 at D has none", true, Asm.addi(4, 0, 1), Asm.branch(0, 1, 2, 4), Asm.sw(4, 0, 0));
        reach("the last one's own result does not stand between", true, SEVEN, Asm.addi(7, 7, 1));
        reach("one way is free", true, SEVEN, Asm.beq(1, 2, 2), Asm.addi(7, 0, 2), use);
        reach("neither way is", false, SEVEN, Asm.beq(1, 2, 3), Asm.addi(7, 0, 2), Asm.go(2), Asm.lw(7, 0, 0), use);
    }

    private static void fencesBetween() {
        int use = Asm.sw(7, 0, 0);
        reach("a fence", false, SEVEN, Asm.FENCE, use);
        reach("any fence", false, SEVEN, 15, use);
        reach("a fence on one way", true, SEVEN, Asm.beq(1, 2, 2), Asm.FENCE, use);
        reach("a fence on both", false, SEVEN, Asm.beq(1, 2, 3), Asm.FENCE, Asm.go(2), Asm.FENCE, use);
        GuessFences x = Asm.loaded(Asm.FENCE, SEVEN, use, Asm.FENCE);
        Due.is("a fence before and a fence behind", x.reaches(1, 2), true);
    }

    private static void reachesItself() {
        GuessFences x = Asm.loaded(Asm.addi(7, 7, 1), Asm.beq(1, 2, -1));
        Due.is("itself", x.reaches(0, 0), true);
        GuessFences y = Asm.loaded(Asm.addi(7, 7, 1), Asm.FENCE, Asm.go(-2));
        Due.is("not over a fence", y.reaches(0, 0), false);
        GuessFences z = Asm.loaded(Asm.addi(7, 7, 1), Asm.upper(7, 0), Asm.go(-2));
        Due.is("not over another result", z.reaches(0, 0), false);
        GuessFences v = Asm.loaded(Asm.addi(7, 1, 1), Asm.go(-1));
        Due.is("not if it uses it not", v.reaches(0, 0), false);
        GuessFences w = Asm.loaded(Asm.lw(7, 7, 0), Asm.beq(1, 2, -1));
        marks("a load that betrays itself", w, 1 + 2 + 4 + 8, 1);
    }

    private static void noResult() {
        reach("STORE", false, Asm.sw(1, 2, 7), Asm.add(1, 7, 7));
        reach("BRANCH", false, Asm.beq(7, 7, 1), Asm.add(1, 7, 7));
        reach("JUMP", false, Asm.go(1), Asm.add(1, 0, 0));
        reach("FENCE with 7 at D", false, 15 | 7 << 7, Asm.add(1, 7, 7));
        reach("HALT", false, Asm.HALT, Asm.add(1, 0, 0));
        reach("REG with D 0", false, Asm.add(0, 1, 1), Asm.add(1, 0, 0));
        reach("IMM with D 0", false, Asm.addi(0, 1, 1), Asm.add(1, 0, 0));
        reach("UPPER with D 0", false, Asm.upper(0, 1), Asm.add(1, 0, 0));
        reach("LOAD with D 0", false, Asm.lw(0, 1, 0), Asm.add(1, 0, 0));
        reach("UPPER with D 31", true, Asm.upper(31, 1), Asm.add(1, 0, 31));
        reach("LOAD with D 1", true, Asm.lw(1, 1, 0), Asm.add(1, 1, 0));
    }

    /** Whatever stands behind an instruction without a result, also what uses no second register, or none at all. */
    private static void noResultReachesNothing() {
        int[] without = {Asm.add(0, 1, 2), Asm.addi(0, 1, 2), Asm.upper(0, 1), Asm.lw(0, 1, 2), Asm.sw(1, 2, 3), Asm.beq(1, 2, 1),
            Asm.go(1), Asm.FENCE, Asm.HALT};
        int[] any = {Asm.add(1, 0, 0), Asm.addi(1, 0, 1), Asm.upper(1, 1), Asm.lw(1, 0, 0), Asm.sw(0, 0, 0), Asm.beq(0, 0, 0),
            Asm.go(0), Asm.FENCE, Asm.HALT};
        for (int from = 0; from < without.length; from++) {
            for (int to = 0; to < any.length; to++) {
                reach("from kind " + from + " to kind " + to, false, without[from], any[to]);
            }
        }
    }

    /** Words that do nothing up to this place. */
    private static void fill(GuessFences x, int size, int upTo) {
        if (upTo > size) {
            x.word(Asm.NOP);
        }
        if (upTo > size + 1) {
            x.again(1, upTo - size - 1);
        }
    }

    /** Two loads come together far on, and what they make is betrayed farther on still. */
    private static void farApart() {
        int[] places = {4, 62, 63, 64, 65, 126, 127, 128, 129, 255, 256, 257, 383, 384, 511, 512, 513, 518, 519};
        for (int i = 0; i < places.length; i++) {
            for (int j = i + 1; j < places.length; j++) {
                GuessFences x = Asm.words(Asm.beq(0, 0, 1), Asm.lw(1, 0, 0), Asm.lw(2, 0, 0));
                fill(x, 3, places[i]);
                x.word(Asm.add(3, 1, 2));
                fill(x, places[i] + 1, places[j]);
                x.word(Asm.lw(0, 3, 0));
                String name = "sum at " + places[i] + ", betrayed at " + places[j];
                Due.is(name + ": load()", x.load(), 0);
                Due.is(name + ": check()", x.check(), 1);
                Due.is(name + ": cut()", x.cut(), 1);
                Due.is(name + ": a load", x.mark(1), 3);
                Due.is(name + ": the sum", x.mark(places[i]), 11);
                Due.is(name + ": the last", x.mark(places[j]), 5);
                Due.is(name + ": before it", x.mark(places[j] - 1), places[j] - 1 == places[i] ? 11 : 1);
                Due.is(name + ": it reaches it", x.reaches(places[i], places[j]), true);
                Due.is(name + ": a load reaches the sum", x.reaches(2, places[i]), true);
                Due.is(name + ": a load does not reach the last", x.reaches(2, places[j]), false);
                Due.is(name + ": rewrite()", x.rewrite(), places[j] + 2);
                Due.is(name + ": the fence", x.wordAt(places[i] + 1), 267386895);
            }
        }
    }

    /** One result and a program of 520 words, of which every third one uses it. */
    private static void reachesAllOver() {
        for (int part = 0; part < 2; part++) {
            GuessFences x = Asm.words(SEVEN, Asm.sw(7, 0, 0), Asm.NOP, Asm.NOP);
            x.again(3, 172);
            Due.is("load()", x.load(), 0);
            for (int to = 260 * part; to < 260 * part + 260; to++) {
                Due.is("reaches(0, " + to + ")", x.reaches(0, to), to % 3 == 1);
            }
        }
    }

    private static void taintedLoads() {
        int[] forms = {0, 1, 2, 4, 5};
        for (int f : forms) {
            marks("load F " + f, Asm.loaded(Asm.beq(0, 0, 2), Asm.load(f, 1, 2, 0)), 0, 3);
        }
        marks("no branch", Asm.loaded(Asm.lw(1, 2, 0), Asm.NOP), 0, 0);
        marks("behind a fence", Asm.loaded(Asm.beq(0, 0, 3), Asm.FENCE, Asm.lw(1, 2, 0)), 0, 1, 0);
        marks("no result", Asm.loaded(Asm.beq(0, 0, 2), Asm.lw(0, 2, 0)), 0, 1);
        marks("other results", Asm.loaded(Asm.beq(0, 0, 4), Asm.upper(1, 1), Asm.addi(2, 0, 1), Asm.add(3, 0, 0)), 0, 1, 1, 1);
    }

    private static void taintedResults() {
        int branch = Asm.beq(0, 0, 1);
        marks("REG by A", Asm.loaded(branch, Asm.lw(1, 0, 0), Asm.add(2, 1, 0)), 0, 3, 3);
        marks("REG by B", Asm.loaded(branch, Asm.lw(1, 0, 0), Asm.add(2, 0, 1)), 0, 3, 3);
        marks("IMM", Asm.loaded(branch, Asm.lw(1, 0, 0), Asm.addi(2, 1, 0)), 0, 3, 3);
        marks("though nothing is left of it", Asm.loaded(branch, Asm.lw(1, 0, 0), Asm.imm(7, 2, 1, 0)), 0, 3, 3);
        marks("UPPER never", Asm.loaded(branch, Asm.lw(1, 0, 0), Asm.upper(2, 8)), 0, 3, 1);
        marks("no result", Asm.loaded(branch, Asm.lw(1, 0, 0), Asm.add(0, 1, 1), Asm.add(3, 0, 0)), 0, 3, 1, 1);
        marks("not what is not used", Asm.loaded(branch, Asm.lw(1, 0, 0), Asm.add(2, 3, 3)), 0, 3, 1);
        marks("over and over", Asm.loaded(branch, Asm.lw(1, 0, 0), Asm.addi(1, 1, 1), Asm.addi(1, 1, 1), Asm.add(2, 1, 1)), 0, 3, 3, 3, 3);
        marks("not over a fence", Asm.loaded(branch, Asm.lw(1, 0, 0), Asm.FENCE, Asm.add(2, 1, 1)), 0, 3, 1, 0);
        marks("not through memory", Asm.loaded(branch, Asm.lw(1, 0, 0), Asm.sw(1, 0, 0), Asm.upper(3, 0), Asm.add(4, 3, 3)), 0, 3, 1, 1, 1);
        marks("against the order of places", Asm.loaded(Asm.addi(2, 1, 0), Asm.HALT, Asm.beq(0, 0, 2), Asm.HALT, Asm.lw(1, 0, 0),
                Asm.go(-5)), 3, 1, 0, 1, 3, 1);
    }

    private static void betrays(String name, int due, int word) {
        GuessFences x = Asm.loaded(Asm.beq(0, 0, 1), Asm.lw(7, 0, 0), word);
        Due.is(name + ": check()", x.check(), due);
        Due.is(name + ": mark(2)", x.mark(2) & 4, 4 * due);
        Due.is(name + ": cut()", x.cut(), due);
    }

    private static void betraysRegisters() {
        betrays("LOAD at it", 1, Asm.lw(1, 7, 0));
        betrays("LOAD at it without a result", 1, Asm.load(4, 0, 7, 0));
        betrays("STORE at it", 1, Asm.store(0, 1, 7, 0));
        betrays("STORE of it", 0, Asm.sw(7, 1, 0));
        betrays("STORE of it at it", 1, Asm.sw(7, 7, 0));
        betrays("BRANCH by A", 1, Asm.branch(5, 7, 0, 0));
        betrays("BRANCH by B", 1, Asm.branch(6, 0, 7, 0));
        for (int f = 0; f < 8; f++) {
            int due = f >= 4 ? 1 : 0;
            betrays("REG of G 1 and F " + f + " by A", due, Asm.reg(1, f, 1, 7, 2));
            betrays("REG of G 1 and F " + f + " by B", due, Asm.reg(1, f, 0, 2, 7));
            betrays("REG of G 0 and F " + f, 0, Asm.reg(0, f, 1, 7, 7));
        }
        betrays("sub", 0, Asm.reg(32, 0, 1, 7, 7));
        betrays("sra", 0, Asm.reg(32, 5, 1, 7, 7));
        betrays("IMM with the F of a division", 0, Asm.imm(4, 1, 7, 33));
        betrays("JUMP", 0, Asm.go(0));
    }

    /** Only the register that is betrayed counts, and only what may be in it. */
    private static void exposedByItsRegister() {
        int branch = Asm.beq(0, 0, 1);
        GuessFences x = Asm.loaded(branch, Asm.lw(1, 0, 0), Asm.upper(2, 1), Asm.sw(1, 2, 0));
        Due.is("another register is betrayed", x.check(), 0);
        GuessFences y = Asm.loaded(branch, Asm.lw(1, 0, 0), Asm.upper(1, 1), Asm.sw(1, 1, 0));
        Due.is("another result is in it", y.check(), 0);
        GuessFences z = Asm.loaded(Asm.beq(1, 1, 3), Asm.lw(1, 0, 0), Asm.go(2), Asm.upper(1, 1), Asm.sw(0, 1, 0));
        Due.is("on one of two ways", z.check(), 1);
        GuessFences v = Asm.loaded(branch, Asm.lw(1, 0, 0), Asm.lw(2, 0, 0), Asm.reg(1, 4, 3, 1, 2), Asm.beq(1, 2, 1));
        Due.is("two of them count once in each", v.check(), 2);
        marks("each of them", v, 0, 11, 11, 7, 5);
    }

    private static void nothingToCut() {
        Due.is("no words", Asm.loaded().cut(), 0);
        Due.is("nothing tainted", Asm.loaded(Asm.beq(1, 2, 1), Asm.add(1, 1, 1)).cut(), 0);
        Due.is("nothing exposed", Asm.loaded(Asm.beq(1, 2, 1), Asm.lw(1, 2, 0), Asm.add(1, 1, 1)).cut(), 0);
        GuessFences x = Asm.loaded(Asm.beq(1, 2, 1), Asm.lw(1, 2, 0), Asm.lw(3, 2, 0), Asm.lw(0, 3, 0));
        marks("only what leads to it", x, 0, 3, 11, 5);
    }

    private static void fewestResults() {
        int branch = Asm.beq(0, 0, 1);
        GuessFences one = Asm.loaded(branch, Asm.lw(1, 0, 0), Asm.lw(2, 0, 0), Asm.lw(3, 0, 0), Asm.add(4, 1, 2), Asm.add(4, 4, 3),
                Asm.lw(0, 4, 0), Asm.lw(0, 4, 4));
        Due.is("three loads, one sum", one.cut(), 1);
        marks("the sum", one, 0, 3, 3, 3, 3, 11, 5, 5);
        GuessFences load = Asm.loaded(branch, Asm.lw(1, 0, 0), Asm.addi(2, 1, 0), Asm.addi(3, 1, 0), Asm.addi(4, 1, 0),
                Asm.lw(0, 2, 0), Asm.lw(0, 3, 0), Asm.lw(0, 4, 0));
        Due.is("one load, three sums", load.cut(), 1);
        marks("the load", load, 0, 11, 3, 3, 3, 5, 5, 5);
        GuessFences both = Asm.loaded(branch, Asm.lw(1, 0, 0), Asm.lw(2, 0, 0), Asm.add(3, 1, 2), Asm.lw(0, 3, 0), Asm.lw(0, 1, 0));
        Due.is("a load that gives itself away besides", both.cut(), 2);
        marks("it and the other load", both, 0, 11, 11, 3, 5, 5);
        GuessFences first = Asm.loaded(Asm.add(3, 1, 2), Asm.lw(0, 3, 0), Asm.HALT, Asm.beq(0, 0, 2), Asm.HALT, Asm.lw(1, 0, 0),
                Asm.lw(2, 0, 0), Asm.go(-7));
        Due.is("a sum at the place 0", first.cut(), 1);
        marks("that sum", first, 11, 5, 1, 0, 1, 3, 3, 1);
        GuessFences second = Asm.loaded(Asm.addi(3, 1, 0), Asm.add(4, 3, 2), Asm.lw(0, 4, 0), Asm.HALT, Asm.beq(0, 0, 2), Asm.HALT,
                Asm.lw(1, 0, 0), Asm.lw(2, 0, 0), Asm.go(-8));
        Due.is("a sum at the place 1", second.cut(), 1);
        marks("that sum", second, 3, 11, 5, 1, 0, 1, 3, 3, 1);
    }

    /** Of two sets of one size the one that lets fewer results be tainted. */
    private static void fewestTainted() {
        int branch = Asm.beq(0, 0, 1);
        GuessFences chain = Asm.loaded(branch, Asm.lw(1, 0, 0), Asm.addi(2, 1, 0), Asm.addi(3, 2, 0), Asm.lw(0, 3, 0));
        marks("the load of a chain", chain, 0, 11, 3, 3, 5);
        GuessFences sums = Asm.loaded(branch, Asm.lw(1, 0, 0), Asm.lw(2, 0, 0), Asm.add(3, 1, 2), Asm.addi(4, 3, 0), Asm.addi(5, 4, 0),
                Asm.lw(0, 5, 0));
        marks("the first sum", sums, 0, 3, 3, 11, 3, 3, 5);
        GuessFences pairs = Asm.loaded(branch, Asm.lw(1, 0, 0), Asm.lw(2, 0, 0), Asm.addi(3, 1, 0), Asm.addi(4, 2, 0), Asm.add(5, 3, 4),
                Asm.lw(0, 5, 0), Asm.lw(0, 3, 0));
        Due.is("two results", pairs.cut(), 2);
        marks("both loads", pairs, 0, 11, 11, 3, 3, 3, 5, 5);
    }

    private static void words(String name, GuessFences x, int... due) {
        Due.is(name + ": rewrite()", x.rewrite(), due.length);
        for (int i = 0; i < due.length; i++) {
            Due.is(name + ": wordAt(" + i + ")", x.wordAt(i), due[i] & 0xFFFFFFFFL);
        }
        Due.is(name + ": no more", x.wordAt(due.length), NONE);
        Due.is(name + ": check()", x.check(), 0);
    }

    private static void fenceBehindEach() {
        int branch = Asm.branch(7, 5, 6, 0);
        words("nothing to cut", Asm.loaded(branch, Asm.lw(1, 0, 0), 15), branch, Asm.lw(1, 0, 0), 15);
        words("one", Asm.loaded(branch, Asm.lw(1, 0, 0), Asm.lw(1, 1, 0)), branch, Asm.lw(1, 0, 0), 267386895, Asm.lw(1, 1, 0));
        words("two", Asm.loaded(branch, Asm.lw(1, 0, 0), Asm.load(5, 2, 0, -1), Asm.reg(1, 6, 3, 1, 2)),
                branch, Asm.lw(1, 0, 0), 267386895, Asm.load(5, 2, 0, -1), 267386895, Asm.reg(1, 6, 3, 1, 2));
        words("a sum", Asm.loaded(branch, Asm.lw(1, 0, 0), Asm.lw(2, 0, 0), Asm.add(1, 1, 2), Asm.sw(0, 1, 0)),
                branch, Asm.lw(1, 0, 0), Asm.lw(2, 0, 0), Asm.add(1, 1, 2), 267386895, Asm.sw(0, 1, 0));
    }

    /** To what stands before the fence, to what stands behind it, to the end, and over none. */
    private static void sameTargets() {
        int load = Asm.lw(1, 1, 0);
        words("branches on", Asm.loaded(Asm.beq(2, 3, 3), Asm.beq(2, 3, 3), Asm.beq(2, 3, 3), load, load),
                Asm.beq(2, 3, 3), Asm.beq(2, 3, 4), Asm.beq(2, 3, 4), load, Asm.FENCE, load);
        words("branches back", Asm.loaded(Asm.beq(2, 3, 5), load, load, Asm.HALT, Asm.beq(2, 3, -2), Asm.beq(2, 3, -5)),
                Asm.beq(2, 3, 6), load, Asm.FENCE, load, Asm.HALT, Asm.beq(2, 3, -2), Asm.beq(2, 3, -6));
        words("jumps", Asm.loaded(Asm.beq(2, 3, 3), Asm.go(3), Asm.go(6), load, load, Asm.HALT, Asm.go(-3), Asm.go(-3)),
                Asm.beq(2, 3, 3), Asm.go(4), Asm.go(7), load, Asm.FENCE, load, Asm.HALT, Asm.go(-4), Asm.go(-3));
    }

    /** A branch at the place 0 to the end, over loads that all but the last get a fence, and words that get none. */
    private static GuessFences ahead(int loads, int others) {
        GuessFences x = Asm.words(Asm.beq(0, 0, 1 + loads + others), Asm.lw(1, 1, 0));
        x.again(1, loads - 1);
        x.word(Asm.NOP);
        if (others > 1) {
            x.again(1, others - 1);
        }
        Due.is("load()", x.load(), 0);
        Due.is("cut()", x.cut(), loads - 1);
        return x;
    }

    /** A branch behind the last word to the place 0, over loads that all get a fence, and words that get none. */
    private static GuessFences back(int loads, int others) {
        GuessFences x = Asm.words(Asm.lw(1, 1, 0));
        x.again(1, loads - 1);
        for (int i = 0; i < others; i++) {
            x.word(Asm.NOP);
        }
        x.word(Asm.beq(0, 0, -loads - others));
        Due.is("load()", x.load(), 0);
        Due.is("cut()", x.cut(), loads);
        return x;
    }

    /** Branches and jumps to the end and back to the first word, over each number of fences. */
    private static void everyOffset() {
        for (int loads = 2; loads <= 509; loads++) {
            everyOffset(loads, false);
            everyOffset(loads, true);
        }
    }

    private static void everyOffset(int loads, boolean jumpsBack) {
        int before = 2 + loads + (jumpsBack ? 3 : 2);
        int end = before + loads - 1;
        GuessFences x = Asm.words(Asm.go(before), Asm.beq(0, 0, before - 1), Asm.lw(1, 1, 0));
        x.again(1, loads - 1);
        x.word(Asm.HALT);
        if (jumpsBack) {
            x.word(Asm.go(2 - before));
        }
        x.word(Asm.branch(1, 31, 30, 4 * (2 - before)));
        x.load();
        String name = loads + " loads: ";
        Due.is(name + "rewrite()", x.rewrite(), end);
        Due.is(name + "jump ahead", x.wordAt(0), Asm.go(end) & 0xFFFFFFFFL);
        Due.is(name + "branch ahead", x.wordAt(1), Asm.beq(0, 0, end - 1) & 0xFFFFFFFFL);
        Due.is(name + "branch back", x.wordAt(end - 1), Asm.branch(1, 31, 30, 4 * (2 - end)) & 0xFFFFFFFFL);
        Due.is(name + "its target", x.decoded(end - 1, 5), 1);
        if (jumpsBack) {
            Due.is(name + "jump back", x.wordAt(end - 2), Asm.go(2 - end) & 0xFFFFFFFFL);
            Due.is(name + "its target", x.decoded(end - 2, 5), 0);
        }
    }

    /** From -4096 to 4094: 4092 and -4096 are the last ones that are multiples of 4. */
    private static void fartherBranches() {
        GuessFences nearer = ahead(511, 1);
        Due.is("an offset of 4092", nearer.rewrite(), 1 + 511 + 510 + 1);
        Due.is("its word", nearer.wordAt(0), Asm.branch(0, 0, 0, 4092) & 0xFFFFFFFFL);
        Due.is("its target is the end", nearer.decoded(0, 5), 1023);
        GuessFences farther = ahead(511, 2);
        Due.is("an offset of 4096", farther.rewrite(), NONE);
        Due.is("its word", farther.wordAt(0), Asm.beq(0, 0, 514));
        Due.is("still loaded", farther.decoded(0, 5), 514);
        GuessFences nearerBack = back(512, 0);
        Due.is("an offset of -4096", nearerBack.rewrite(), 1025);
        Due.is("its word", nearerBack.wordAt(1024), Asm.branch(0, 0, 0, -4096) & 0xFFFFFFFFL);
        Due.is("its target", nearerBack.decoded(1024, 5), 0);
        GuessFences fartherBack = back(512, 1);
        Due.is("an offset of -4100", fartherBack.rewrite(), NONE);
        Due.is("its word", fartherBack.wordAt(513), Asm.beq(0, 0, -513) & 0xFFFFFFFFL);
        Due.is("still loaded", fartherBack.decoded(513, 5), 0);
    }

    /** Jumps may go farther than branches. */
    private static void fartherJumps() {
        GuessFences x = Asm.words(Asm.go(519), Asm.beq(0, 0, 1), Asm.lw(1, 1, 0));
        x.again(1, 515);
        x.word(Asm.HALT);
        x.word(Asm.go(-518));
        Due.is("520 words", x.load(), 0);
        Due.is("cut()", x.cut(), 515);
        Due.is("rewrite()", x.rewrite(), 1035);
        Due.is("an offset of 4136", x.wordAt(0), Asm.jump(4136) & 0xFFFFFFFFL);
        Due.is("its target", x.decoded(0, 5), 1034);
        Due.is("an offset of -4132", x.wordAt(1034), Asm.jump(-4132) & 0xFFFFFFFFL);
        Due.is("its target", x.decoded(1034, 5), 1);
        Due.is("the branch stays", x.decoded(1, 5), 2);
    }

    private static void upTo1040Words() {
        GuessFences x = Asm.words(Asm.lw(1, 1, 0));
        x.again(1, 517);
        x.word(Asm.beq(0, 0, 1));
        x.word(Asm.go(-519));
        Due.is("520 words", x.load(), 0);
        Due.is("all loads are of the cut", x.cut(), 518);
        Due.is("rewrite()", x.rewrite(), 1038);
        for (int i = 0; i < 60; i++) {
            int place = 976 + i;
            Due.is("wordAt(" + place + ")", x.wordAt(place), place % 2 == 0 ? Asm.lw(1, 1, 0) : 267386895);
            Due.is("home(" + place + ")", x.home(place), place % 2 == 0 ? place / 2 : NONE);
        }
        Due.is("the jump", x.wordAt(1037), Asm.go(-1037) & 0xFFFFFFFFL);
        Due.is("check()", x.check(), 0);
        Due.is("rewrite() once more", x.rewrite(), 1038);
        Due.is("run(1000)", x.run(1000), 1000);
        Due.is("run(1000)", x.run(38), 38);
        Due.is("round", x.state(0), 0);
    }
}
