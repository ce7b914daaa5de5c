/** Compares answers with those that are due, prints each wrong one, and counts them. */
final class Checks {
    /** A call that may throw. */
    interface Call {
        Object answer();
    }

    private static int wrong = 0;
    private static int made = 0;

    private Checks() {
    }

    static void due(String what, Object want, Call call) {
        made++;
        Object got = answerOf(call);
        if (!want.equals(got)) {
            wrong++;
            System.out.println(what + " answered " + got + ", due is " + want);
        }
    }

    static void isTrue(String what, boolean holds) {
        due(what, true, () -> holds);
    }

    /** The class itself is due, so that an exception of the machine, of a class below it, is wrong. */
    static void fails(String what, Class<? extends RuntimeException> want, Call call) {
        due(what, want.getName(), call);
    }

    static void fails(String what, Class<? extends RuntimeException> want, Runnable call) {
        fails(what, want, () -> {
            call.run();
            return "nothing thrown";
        });
    }

    static Object answerOf(Call call) {
        try {
            return call.answer();
        } catch (RuntimeException e) {
            return e.getClass().getName();
        }
    }

    static void end(String name) {
        System.out.println(name + ": " + made + " checks, " + wrong + " wrong");
        System.exit(wrong == 0 && made > 0 ? 0 : 1);
    }
}
