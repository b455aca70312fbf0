import java.math.BigInteger;
import java.util.ArrayList;
import java.util.BitSet;
import java.util.List;

/** The document read as literally and as slowly as can be, to compare answers with. */
final class SlowModel {
    /** All that a wrong guess rolls back, and what is known of the branch. */
    private static final class Open {
        int[] registers;
        byte[] memory;
        int went;
        int ought;
        int behind;
    }

    final int[] words;
    final int end;
    int place;
    int window = 16;
    int[] registers = new int[32];
    byte[] memory = new byte[256];
    final List<Long> leaks = new ArrayList<>();
    final List<Open> open = new ArrayList<>();
    BitSet mayRun;
    BitSet tainted;
    BitSet exposed;
    BitSet cut;
    private boolean[][] reaches;

    SlowModel(int[] words) {
        this.words = words.clone();
        this.end = words.length;
    }

    static int bits(int w, int from, int to) {
        return (int) ((w & 0xFFFFFFFFL) >> from & (1L << to - from + 1) - 1);
    }

    static int code(int w) {
        return bits(w, 0, 6);
    }

    static int d(int w) {
        return bits(w, 7, 11);
    }

    static int f(int w) {
        return bits(w, 12, 14);
    }

    static int a(int w) {
        return bits(w, 15, 19);
    }

    static int b(int w) {
        return bits(w, 20, 24);
    }

    static int g(int w) {
        return bits(w, 25, 31);
    }

    static int signed(int v, int width) {
        return v >= 1 << width - 1 ? v - (1 << width) : v;
    }

    static int kind(int w) {
        int f = f(w);
        int g = g(w);
        if (code(w) == 51 && (g == 0 || g == 1 || g == 32 && f == 0 || g == 32 && f == 5)) {
            return 0;
        }
        if (code(w) == 19 && ("023467".indexOf('0' + f) >= 0 || f == 1 && g == 0 || f == 5 && (g == 0 || g == 32))) {
            return 1;
        }
        if (code(w) == 55) {
            return 2;
        }
        if (code(w) == 3 && "01245".indexOf('0' + f) >= 0) {
            return 3;
        }
        if (code(w) == 35 && f < 3) {
            return 4;
        }
        if (code(w) == 99 && "014567".indexOf('0' + f) >= 0) {
            return 5;
        }
        if (code(w) == 111 && d(w) == 0) {
            return 6;
        }
        if (code(w) == 15 && f == 0) {
            return 7;
        }
        return w == 115 ? 8 : -1;
    }

    static int offset(int w) {
        if (kind(w) == 5) {
            int v = bits(w, 31, 31) << 12 | bits(w, 7, 7) << 11 | bits(w, 25, 30) << 5 | bits(w, 8, 11) << 1;
            return signed(v, 13);
        }
        int v = bits(w, 31, 31) << 20 | bits(w, 12, 19) << 12 | bits(w, 20, 20) << 11 | bits(w, 21, 30) << 1;
        return signed(v, 21);
    }

    static int fault(int w, int place, int end) {
        if (code(w) == 103) {
            return 1;
        }
        if (code(w) == 23) {
            return 2;
        }
        if (code(w) == 111 && d(w) != 0) {
            return 3;
        }
        if (kind(w) == 5 || kind(w) == 6) {
            boolean fine = offset(w) % 4 == 0 && place + offset(w) / 4 >= 0 && place + offset(w) / 4 <= end;
            return fine ? 0 : 5;
        }
        return kind(w) < 0 ? 4 : 0;
    }

    /** The first fault times 10000 and its place, or 0. */
    int firstFault() {
        for (int i = 0; i < end; i++) {
            int fault = fault(words[i], i, end);
            if (fault != 0) {
                return fault * 10000 + i;
            }
        }
        return 0;
    }

    int kindAt(int p) {
        return kind(words[p]);
    }

    int result(int p) {
        return kindAt(p) <= 3 && d(words[p]) != 0 ? d(words[p]) : -1;
    }

    int first(int p) {
        return "013 45".indexOf('0' + kindAt(p)) >= 0 ? a(words[p]) : -1;
    }

    int second(int p) {
        return "045".indexOf('0' + kindAt(p)) >= 0 ? b(words[p]) : -1;
    }

    int target(int p) {
        return kindAt(p) == 5 || kindAt(p) == 6 ? p + offset(words[p]) / 4 : -1;
    }

    int number(int p) {
        int w = words[p];
        switch (kindAt(p)) {
            case 1:
                return f(w) == 1 || f(w) == 5 ? b(w) : signed(bits(w, 20, 31), 12);
            case 2:
                return w - bits(w, 0, 11);
            case 3:
                return signed(bits(w, 20, 31), 12);
            case 4:
                return signed(g(w) * 32 + d(w), 12);
            default:
                return 0;
        }
    }

    int decoded(int p, int what) {
        int[] all = {kindAt(p), result(p), first(p), second(p), number(p), target(p)};
        return all[what];
    }

    private int value(int register) {
        return register <= 0 ? 0 : registers[register];
    }

    private static BigInteger plain(int v) {
        return BigInteger.valueOf(v);
    }

    private static BigInteger unsigned(int v) {
        return BigInteger.valueOf(v & 0xFFFFFFFFL);
    }

    private static int simple(int f, boolean other, int x, int y) {
        int by = y & 31;
        switch (f) {
            case 0:
                return plain(x).add(other ? plain(y).negate() : plain(y)).intValue();
            case 1:
                return plain(x).shiftLeft(by).intValue();
            case 2:
                return plain(x).compareTo(plain(y)) < 0 ? 1 : 0;
            case 3:
                return unsigned(x).compareTo(unsigned(y)) < 0 ? 1 : 0;
            case 4:
                return x ^ y;
            case 5:
                return (other ? plain(x) : unsigned(x)).shiftRight(by).intValue();
            case 6:
                return x | y;
            default:
                return x & y;
        }
    }

    private static int long32(int f, int x, int y) {
        switch (f) {
            case 0:
                return plain(x).multiply(plain(y)).intValue();
            case 1:
                return plain(x).multiply(plain(y)).shiftRight(32).intValue();
            case 2:
                return plain(x).multiply(unsigned(y)).shiftRight(32).intValue();
            case 3:
                return unsigned(x).multiply(unsigned(y)).shiftRight(32).intValue();
            case 4:
                return y == 0 ? -1 : plain(x).divide(plain(y)).intValue();
            case 5:
                return y == 0 ? -1 : unsigned(x).divide(unsigned(y)).intValue();
            case 6:
                return y == 0 ? x : plain(x).remainder(plain(y)).intValue();
            default:
                return y == 0 ? x : unsigned(x).remainder(unsigned(y)).intValue();
        }
    }

    int peek(int address) {
        return get(address, 4);
    }

    private int get(int address, int bytes) {
        int at = Math.floorMod(address, 256) / bytes * bytes;
        int v = 0;
        for (int i = 0; i < bytes; i++) {
            v |= (memory[at + i] & 255) << 8 * i;
        }
        return v;
    }

    void keep(int address, int bytes, int v) {
        int at = Math.floorMod(address, 256) / bytes * bytes;
        for (int i = 0; i < bytes; i++) {
            memory[at + i] = (byte) (v >> 8 * i);
        }
    }

    private void leak(int sort, int number) {
        leaks.add(sort * 4294967296L + (number & 0xFFFFFFFFL));
    }

    private int ought(int p) {
        int x = value(first(p));
        int y = value(second(p));
        boolean holds;
        switch (f(words[p]) / 2) {
            case 0:
                holds = x == y;
                break;
            case 2:
                holds = x < y;
                break;
            default:
                holds = unsigned(x).compareTo(unsigned(y)) < 0;
                break;
        }
        return holds == (f(words[p]) % 2 == 0) ? target(p) : p + 1;
    }

    private boolean isDivision(int p) {
        return kindAt(p) == 0 && g(words[p]) == 1 && f(words[p]) >= 4;
    }

    private void step() {
        int p = place;
        int w = words[p];
        int x = value(first(p));
        int y = kindAt(p) == 1 ? number(p) : value(second(p));
        Integer result = null;
        place = p + 1;
        if (isDivision(p)) {
            leak(3, x);
            leak(4, y);
        }
        if (kindAt(p) == 0 || kindAt(p) == 1) {
            boolean other = g(w) == 32 && (kindAt(p) == 0 || f(w) == 5);
            result = kindAt(p) == 0 && g(w) == 1 ? long32(f(w), x, y) : simple(f(w), other, x, y);
        } else if (kindAt(p) == 2) {
            result = number(p);
        } else if (kindAt(p) == 3) {
            leak(1, x + number(p));
            int bytes = f(w) % 4 == 0 ? 1 : f(w) % 4 == 1 ? 2 : 4;
            int v = get(x + number(p), bytes);
            result = f(w) == 0 ? (byte) v : f(w) == 1 ? (short) v : v;
        } else if (kindAt(p) == 4) {
            leak(2, x + number(p));
            keep(x + number(p), f(w) == 0 ? 1 : f(w) == 1 ? 2 : 4, y);
        } else if (kindAt(p) == 5 || kindAt(p) == 6) {
            place = kindAt(p) == 5 ? ought(p) : target(p);
            leak(0, place);
        }
        if (result != null && result(p) > 0) {
            registers[result(p)] = result;
        }
    }

    private boolean canStep() {
        return place < end && kindAt(place) != 8 && leaks.size() <= 2046;
    }

    int run(int times) {
        int done = 0;
        for (; done < times && canStep(); done++) {
            step();
        }
        return done;
    }

    int distance() {
        return open.isEmpty() ? 0 : open.get(0).behind;
    }

    int order(int order) {
        boolean far = !open.isEmpty() && distance() >= window;
        boolean branch = place < end && kindAt(place) == 5;
        if (order == 0) {
            if (!canStep() || branch || far || kindAt(place) == 7 && !open.isEmpty()) {
                return -1;
            }
            step();
            open.forEach(o -> o.behind++);
            return 0;
        }
        if (order == 3) {
            return resolve();
        }
        if (!branch || far || open.size() == 16) {
            return -1;
        }
        open.forEach(o -> o.behind++);
        Open o = new Open();
        o.registers = registers.clone();
        o.memory = memory.clone();
        o.ought = ought(place);
        o.went = order == 1 ? place + 1 : target(place);
        open.add(o);
        place = o.went;
        return 0;
    }

    private int resolve() {
        if (open.isEmpty() || leaks.size() > 2046) {
            return -1;
        }
        Open o = open.remove(0);
        leak(0, o.ought);
        if (o.went == o.ought) {
            return 1;
        }
        open.clear();
        registers = o.registers;
        memory = o.memory;
        place = o.ought;
        return 2;
    }

    List<Integer> nexts(int p) {
        List<Integer> nexts = new ArrayList<>();
        if (kindAt(p) != 6 && kindAt(p) != 8 && p + 1 < end) {
            nexts.add(p + 1);
        }
        if (target(p) >= 0 && target(p) < end) {
            nexts.add(target(p));
        }
        return nexts;
    }

    /** All that a way leads to from there with nothing barred strictly between. */
    private BitSet ways(int from, BitSet barred) {
        BitSet found = new BitSet();
        List<Integer> work = new ArrayList<>(nexts(from));
        while (!work.isEmpty()) {
            int p = work.remove(work.size() - 1);
            if (!found.get(p)) {
                found.set(p);
                if (!barred.get(p)) {
                    work.addAll(nexts(p));
                }
            }
        }
        return found;
    }

    private BitSet barredFor(int register) {
        BitSet barred = new BitSet();
        for (int p = 0; p < end; p++) {
            if (kindAt(p) == 7 || register > 0 && result(p) == register) {
                barred.set(p);
            }
        }
        return barred;
    }

    boolean reaches(int from, int to) {
        int r = result(from);
        return r > 0 && (first(to) == r || second(to) == r) && ways(from, barredFor(r)).get(to);
    }

    private boolean betrays(int p, int register) {
        if (kindAt(p) == 3 || kindAt(p) == 4) {
            return a(words[p]) == register;
        }
        return (kindAt(p) == 5 || isDivision(p)) && (a(words[p]) == register || b(words[p]) == register);
    }

    private BitSet taintedWithout(BitSet never) {
        BitSet found = new BitSet();
        for (boolean more = true; more;) {
            more = false;
            for (int p = 0; p < end; p++) {
                if (!found.get(p) && !never.get(p) && result(p) > 0 && becomesTainted(p, found)) {
                    found.set(p);
                    more = true;
                }
            }
        }
        return found;
    }

    private boolean becomesTainted(int p, BitSet found) {
        if (kindAt(p) == 3) {
            return mayRun.get(p);
        }
        return kindAt(p) <= 1 && found.stream().anyMatch(q -> reaches[q][p]);
    }

    private BitSet exposedBy(BitSet taint) {
        BitSet found = new BitSet();
        for (int p = 0; p < end; p++) {
            int here = p;
            if (taint.stream().anyMatch(q -> reaches[q][here] && betrays(here, result(q)))) {
                found.set(p);
            }
        }
        return found;
    }

    void study() {
        mayRun = new BitSet();
        reaches = new boolean[end][end];
        for (int p = 0; p < end; p++) {
            if (kindAt(p) == 5) {
                mayRun.or(ways(p, barredFor(-1)));
            }
            if (result(p) > 0) {
                BitSet ways = ways(p, barredFor(result(p)));
                for (int to = 0; to < end; to++) {
                    reaches[p][to] = ways.get(to) && (first(to) == result(p) || second(to) == result(p));
                }
            }
        }
        tainted = taintedWithout(new BitSet());
        exposed = exposedBy(tainted);
        cut = tainted.cardinality() <= 12 ? cutBySubsets() : cutByFlow();
    }

    int mark(int p) {
        return (mayRun.get(p) ? 1 : 0) + (tainted.get(p) ? 2 : 0) + (exposed.get(p) ? 4 : 0) + (cut.get(p) ? 8 : 0);
    }

    BitSet cutBySubsets() {
        int[] all = tainted.stream().toArray();
        BitSet best = null;
        int bestTaint = 0;
        boolean single = true;
        for (int set = 0; set < 1 << all.length; set++) {
            BitSet never = new BitSet();
            for (int i = 0; i < all.length; i++) {
                never.set(all[i], (set >> i & 1) == 1);
            }
            if (best != null && never.cardinality() > best.cardinality()) {
                continue;
            }
            BitSet taint = taintedWithout(never);
            if (!exposedBy(taint).isEmpty()) {
                continue;
            }
            boolean fewer = best == null || never.cardinality() < best.cardinality();
            if (!fewer && taint.cardinality() == bestTaint) {
                single = false;
            } else if (fewer || taint.cardinality() < bestTaint) {
                best = never;
                bestTaint = taint.cardinality();
                single = true;
            }
        }
        Due.is("there is just one cut", single, true);
        return best;
    }

    /** Flow over a whole matrix, in which no step is clever. */
    BitSet cutByFlow() {
        int source = 2 * end;
        int sink = source + 1;
        int[][] room = new int[sink + 1][sink + 1];
        for (int p : tainted.stream().toArray()) {
            room[2 * p][2 * p + 1] = 1;
            room[source][2 * p] = kindAt(p) == 3 ? 9999 : 0;
            for (int q = 0; q < end; q++) {
                if (reaches[p][q] && betrays(q, result(p))) {
                    room[2 * p + 1][sink] = 9999;
                }
                if (reaches[p][q] && tainted.get(q) && kindAt(q) <= 1) {
                    room[2 * p + 1][2 * q] = 9999;
                }
            }
        }
        BitSet seen = new BitSet();
        while (push(room, source, sink, seen)) {
            seen.clear();
        }
        BitSet found = new BitSet();
        tainted.stream().filter(p -> seen.get(2 * p) && !seen.get(2 * p + 1)).forEach(found::set);
        return found;
    }

    private static boolean push(int[][] room, int at, int sink, BitSet seen) {
        if (at == sink) {
            return true;
        }
        seen.set(at);
        for (int to = sink; to >= 0; to--) {
            if (room[at][to] > 0 && !seen.get(to) && push(room, to, sink, seen)) {
                room[at][to]--;
                room[to][at]++;
                return true;
            }
        }
        return false;
    }

    /** The program written anew; null if it can't be. */
    int[] rewritten() {
        List<Integer> row = new ArrayList<>();
        int[] moved = new int[end + 1];
        for (int p = 0; p < end; p++) {
            moved[p] = row.size();
            row.add(words[p]);
            if (cut.get(p)) {
                row.add(Asm.FENCE);
            }
        }
        moved[end] = row.size();
        for (int p = 0; p < end; p++) {
            if (target(p) < 0) {
                continue;
            }
            int w = words[p];
            int offset = 4 * (moved[target(p)] - moved[p]);
            if (kindAt(p) == 5 && (offset < -4096 || offset > 4094)) {
                return null;
            }
            row.set(moved[p], kindAt(p) == 5 ? Asm.branch(f(w), a(w), b(w), offset) : Asm.jump(offset));
        }
        return row.stream().mapToInt(Integer::intValue).toArray();
    }

    int[] homes() {
        List<Integer> row = new ArrayList<>();
        for (int p = 0; p < end; p++) {
            row.add(p);
            if (cut.get(p)) {
                row.add(-1);
            }
        }
        return row.stream().mapToInt(Integer::intValue).toArray();
    }
}
