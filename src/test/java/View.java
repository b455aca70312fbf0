import java.util.function.LongSupplier;

/**
 * All that can be seen of an object, as a text; what throws is seen as the exception's name. It takes some 310
 * calls, since the document promises nothing behind the 512th, and so looks at a choice of places of a large program.
 */
final class View {
    private static final int[] PLACES = {-1, 0, 1, 2, 3, 4, 5, 6, 7, 8, 255, 511, 512, 513, 518, 519, 520, 1022, 1023, 1024, 1025};
    private static final int[] LEAKS = {-1, 0, 1, 2, 3, 4, 5, 2044, 2045, 2046, 2047, 2048};
    private static final int[] REGISTERS = {0, 1, 2, 3, 4, 5, 30, 31};

    private final GuessFences x;
    private final StringBuilder text = new StringBuilder();

    private View(GuessFences x) {
        this.x = x;
    }

    static String of(GuessFences x) {
        View view = new View(x);
        view.words();
        view.machine();
        view.flow();
        return view.text.toString();
    }

    private void see(String call, LongSupplier answer) {
        text.append(call).append(' ').append(answerOf(answer)).append('\n');
    }

    static String answerOf(LongSupplier call) {
        try {
            return Long.toString(call.getAsLong());
        } catch (RuntimeException e) {
            return e.getClass().getSimpleName();
        }
    }

    private void words() {
        see("faultAt()", x::faultAt);
        for (int place : PLACES) {
            see("wordAt(" + place + ")", () -> x.wordAt(place));
            see("home(" + place + ")", () -> x.home(place));
        }
        for (int place = 0; place < 6; place++) {
            int here = place;
            for (int what = 0; what < 6; what++) {
                int part = what;
                see("decoded(" + place + ", " + what + ")", () -> x.decoded(here, part));
            }
        }
    }

    private void machine() {
        int window = x.window(1);
        see("window()", () -> window);
        x.window(window);
        for (int what = 0; what < 4; what++) {
            int part = what;
            see("state(" + what + ")", () -> x.state(part));
        }
        for (int register : REGISTERS) {
            see("register(" + register + ")", () -> x.register(register));
        }
        for (int address = 0; address < 256; address += 4) {
            int here = address;
            see("peek(" + address + ")", () -> x.peek(here));
        }
        for (int i : LEAKS) {
            see("leak(" + i + ")", () -> x.leak(i));
        }
    }

    private void flow() {
        see("check()", x::check);
        see("cut()", x::cut);
        for (int place : PLACES) {
            see("mark(" + place + ")", () -> x.mark(place));
        }
        for (int from = 0; from < 6; from++) {
            int one = from;
            for (int to = 0; to < 6; to++) {
                int other = to;
                see("reaches(" + from + ", " + to + ")", () -> x.reaches(one, other) ? 1 : 0);
            }
        }
    }
}
