/** Counts the answers that are not the ones that are due, and prints them. */
final class Due {
    private static int wrong = 0;

    interface Call {
        void make();
    }

    private Due() {
    }

    static void is(String call, long got, long want) {
        if (got != want) {
            wrong++;
            System.out.println(call + " answered " + got + ", due is " + want);
        }
    }

    /** Of two texts only the first lines that differ are told. */
    static void is(String call, String got, String want) {
        String[] gotLines = got.split("\n");
        String[] wantLines = want.split("\n");
        int line = 0;
        while (line < gotLines.length - 1 && line < wantLines.length - 1 && gotLines[line].equals(wantLines[line])) {
            line++;
        }
        if (!got.equals(want)) {
            wrong++;
            System.out.println(call + " answered '" + gotLines[line] + "', due is '" + wantLines[line] + "'");
        }
    }

    static void is(String call, boolean got, boolean want) {
        is(call, got ? 1 : 0, want ? 1 : 0);
    }

    static void state(String name, Call call) {
        throwsJust(name, IllegalStateException.class, call);
    }

    static void argument(String name, Call call) {
        throwsJust(name, IllegalArgumentException.class, call);
    }

    static void bounds(String name, Call call) {
        throwsJust(name, IndexOutOfBoundsException.class, call);
    }

    private static void throwsJust(String name, Class<?> due, Call call) {
        Class<?> got = null;
        try {
            call.make();
        } catch (RuntimeException e) {
            got = e.getClass();
        }
        if (got != due) {
            wrong++;
            System.out.println(name + " threw " + got + ", due is " + due);
        }
    }

    static void end(String name) {
        System.out.println(name + ": " + (wrong == 0 ? "all answers are as due" : wrong + " answers are not as due"));
        if (wrong != 0) {
            System.exit(1);
        }
    }
}
