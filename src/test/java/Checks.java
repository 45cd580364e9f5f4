import java.util.Objects;

/** Counts and prints the calls whose answer is not the one that is due. */
final class Checks {
    private static int made = 0;
    private static int wrong = 0;

    private Checks() {
    }

    interface Call {
        long answer();
    }

    interface Act {
        void run();
    }

    /** What a call answers as a text, or the name of what it throws. */
    static String outcome(Call call) {
        try {
            return Long.toString(call.answer());
        } catch (RuntimeException e) {
            return e.getClass().getSimpleName();
        }
    }

    static void due(String what, long want, Call call) {
        same(what, Long.toString(want), outcome(call));
    }

    static void thrown(String what, Class<? extends RuntimeException> want, Call call) {
        same(what, want.getSimpleName(), outcome(call));
    }

    static void done(String what, Act act) {
        due(what, 0, asCall(act));
    }

    static void thrownBy(String what, Class<? extends RuntimeException> want, Act act) {
        thrown(what, want, asCall(act));
    }

    static void same(String what, Object want, Object got) {
        made++;
        if (!Objects.equals(want, got)) {
            wrong++;
            if (wrong <= 50) {
                System.out.println(what + ": got " + brief(got) + ", due is " + brief(want));
            }
        }
    }

    static void finish(String name) {
        System.out.println(name + ": " + made + " checks, " + wrong + " wrong");
        if (wrong != 0 || made == 0) {
            System.exit(1);
        }
    }

    private static Call asCall(Act act) {
        return () -> {
            act.run();
            return 0;
        };
    }

    private static String brief(Object x) {
        String text = String.valueOf(x);
        return text.length() <= 120 ? text : text.substring(0, 120) + ".. (" + text.length() + ")";
    }
}
