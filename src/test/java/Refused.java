import java.util.ArrayList;
import java.util.HashMap;
import java.util.List;
import java.util.Map;
import java.util.function.Consumer;
import java.util.function.Supplier;
import java.util.function.ToLongFunction;

/**
 * Has an object refuse a call, and compares it with a twin that got all calls but this one: in what can be
 * seen at once, and in what only later calls would tell, as what a wrong guess rolls back to.
 */
final class Refused {
    private static final List<Consumer<GuessFences>> AFTERMATHS = new ArrayList<>();
    private static final Map<Supplier<GuessFences>, String[]> SPARED = new HashMap<>();

    static {
        AFTERMATHS.add(x -> { });
        AFTERMATHS.add(x -> x.order(3));
        AFTERMATHS.add(x -> repeat(17, () -> x.order(3)));
        AFTERMATHS.add(x -> repeat(3, () -> x.order(0)));
        AFTERMATHS.add(x -> x.order(1));
        AFTERMATHS.add(x -> {
            x.forget();
            x.order(0);
            x.order(2);
            x.order(3);
        });
        AFTERMATHS.add(x -> x.run(2));
        AFTERMATHS.add(GuessFences::load);
        AFTERMATHS.add(x -> x.word(Asm.NOP));
        AFTERMATHS.add(x -> x.again(1, 2));
        AFTERMATHS.add(GuessFences::rewrite);
    }

    private Refused() {
    }

    static void none(String name, Supplier<GuessFences> maker, ToLongFunction<GuessFences> call) {
        changesNothing(name, "-1", maker, call);
    }

    static void state(String name, Supplier<GuessFences> maker, ToLongFunction<GuessFences> call) {
        changesNothing(name, "IllegalStateException", maker, call);
    }

    static void argument(String name, Supplier<GuessFences> maker, ToLongFunction<GuessFences> call) {
        changesNothing(name, "IllegalArgumentException", maker, call);
    }

    static void bounds(String name, Supplier<GuessFences> maker, ToLongFunction<GuessFences> call) {
        changesNothing(name, "IndexOutOfBoundsException", maker, call);
    }

    private static void changesNothing(String name, String due, Supplier<GuessFences> maker, ToLongFunction<GuessFences> call) {
        String[] spared = SPARED.computeIfAbsent(maker, Refused::spared);
        for (int i = 0; i < AFTERMATHS.size(); i++) {
            GuessFences tried = maker.get();
            Due.is(name, View.answerOf(() -> call.applyAsLong(tried)), due);
            Due.is(name + ", aftermath " + i, later(tried, i), spared[i]);
        }
    }

    /** What is seen of the twin is the same for all refused calls, and kept since it takes long to see. */
    private static String[] spared(Supplier<GuessFences> maker) {
        String[] views = new String[AFTERMATHS.size()];
        for (int i = 0; i < views.length; i++) {
            views[i] = later(maker.get(), i);
        }
        return views;
    }

    private static String later(GuessFences x, int i) {
        try {
            AFTERMATHS.get(i).accept(x);
        } catch (RuntimeException e) {
            return e.getClass().getSimpleName() + "\n" + View.of(x);
        }
        return View.of(x);
    }

    private static void repeat(int times, Runnable call) {
        for (int i = 0; i < times; i++) {
            call.run();
        }
    }
}
