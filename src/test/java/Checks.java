import java.util.NoSuchElementException;
import java.util.function.IntFunction;

/** Compares answers with those that are due, prints each wrong one, and counts them. */
final class Checks {
    static final Class<IllegalArgumentException> ARGUMENT = IllegalArgumentException.class;
    static final Class<IllegalStateException> STATE = IllegalStateException.class;
    static final Class<IndexOutOfBoundsException> INDEX = IndexOutOfBoundsException.class;
    static final Class<NoSuchElementException> ELEMENT = NoSuchElementException.class;
    static final Class<UnsupportedOperationException> UNSUPPORTED = UnsupportedOperationException.class;
    static final Class<ArithmeticException> ARITHMETIC = ArithmeticException.class;
    static final int LEAST = Integer.MIN_VALUE;
    static final int GREATEST = Integer.MAX_VALUE;

    /** A call that may throw. */
    interface Call {
        Object answer();
    }

    private static String sentence = "";
    private static int sentences = 0;
    private static int wrong = 0;
    private static int made = 0;

    private Checks() {
    }

    /** The sentence of the document that the next checks are about. */
    static void about(String quoted) {
        sentence = quoted;
        sentences++;
    }

    static void due(String what, Object want, Call call) {
        made++;
        Object got = answerOf(call);
        if (!want.equals(got)) {
            wrong++;
            System.out.println(what + " answered " + got + ", due is " + want
                    + (sentence.isEmpty() ? "" : " (" + sentence + ")"));
        }
    }

    /** The answers for 0, 1, 2 and so on. */
    static void row(String what, int[] want, IntFunction<Object> call) {
        for (int i = 0; i < want.length; i++) {
            int index = i;
            due(what + " " + i, want[i], () -> call.apply(index));
        }
    }

    static void isTrue(String what, boolean holds) {
        due(what, true, () -> holds);
    }

    /** The class itself is due, so that an exception of the machine, of a class below it, is wrong. */
    static void fails(String what, Class<? extends RuntimeException> want, Call call) {
        due(what, want.getName(), call);
    }

    static void fails(String what, Class<? extends RuntimeException> want, Runnable call) {
        fails(what, want, () -> {
            call.run();
            return "nothing thrown";
        });
    }

    static void touches(String what, FencingMeet m, int bout, int left, int right) {
        due(what + ", left", left, () -> m.bout(bout, 2));
        due(what + ", right", right, () -> m.bout(bout, 3));
    }

    static Object answerOf(Call call) {
        try {
            return call.answer();
        } catch (RuntimeException e) {
            return e.getClass().getName();
        }
    }

    static void end(String name) {
        System.out.println(name + ": " + (sentences > 0 ? sentences + " sentences, " : "")
                + made + " checks, " + wrong + " wrong");
        System.exit(wrong == 0 && made > 0 ? 0 : 1);
    }
}
