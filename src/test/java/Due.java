import java.util.NoSuchElementException;

/** Compares answers with those that are due, and counts what is wrong. */
final class Due {

    static final Class<?> INDEX = IndexOutOfBoundsException.class;
    static final Class<?> ARGUMENT = IllegalArgumentException.class;
    static final Class<?> STATE = IllegalStateException.class;
    static final Class<?> ELEMENT = NoSuchElementException.class;
    static final Class<?> UNSUPPORTED = UnsupportedOperationException.class;

    /** A call of which one number varies. */
    interface Call {
        int of(int number);
    }

    private static int wrong;
    private static String sentence = "no sentence";

    private Due() {
    }

    /** Names the sentence of the document that the answers from here on are about. */
    static void sentence(String head, String words) {
        sentence = head + ", '" + words + "'";
    }

    static void same(int promise, String call, long got, long want) {
        sentence = "promise " + promise;
        same(call, got, want);
    }

    static void same(String call, long got, long want) {
        if (got != want) {
            fault(call + " answered " + got + ", due is " + want);
        }
    }

    static void alike(String call, String got, String want) {
        if (!got.equals(want)) {
            fault(call + " answered " + got + ", due is " + want);
        }
    }

    static void thrown(int promise, String call, Class<?> want, Runnable body) {
        sentence = "promise " + promise;
        thrown(call, want, body);
    }

    /** Only the class itself is due: a class below it would be thrown by the machine. */
    static void thrown(String call, Class<?> want, Runnable body) {
        Class<?> got = thrownBy(body);
        if (got != want) {
            fault(call + " threw " + got + ", due is " + want);
        }
    }

    /** The answers to the numbers from 0 on. */
    static void row(String call, Call body, int... want) {
        for (int i = 0; i < want.length; i++) {
            same(call + " of " + i, body.of(i), want[i]);
        }
    }

    /** The call takes the numbers from the least to the most one, and no others. */
    static void range(String call, Class<?> want, int least, int most, Call body) {
        inside(call, body, least, most);
        outside(call, want, body, least - 1, most + 1, Integer.MIN_VALUE, Integer.MAX_VALUE);
    }

    static void inside(String call, Call body, int... numbers) {
        for (int number : numbers) {
            thrown(call + " of " + number, null, () -> body.of(number));
        }
    }

    static void outside(String call, Class<?> want, Call body, int... numbers) {
        for (int number : numbers) {
            thrown(call + " of " + number, want, () -> body.of(number));
        }
    }

    private static Class<?> thrownBy(Runnable body) {
        try {
            body.run();
            return null;
        } catch (RuntimeException broken) {
            return broken.getClass();
        }
    }

    static void fault(int promise, String text) {
        sentence = "promise " + promise;
        fault(text);
    }

    static void fault(String text) {
        wrong++;
        System.out.println(sentence + ": " + text);
    }

    static void end() {
        System.out.println(wrong == 0 ? "all answers are as due" : wrong + " answers are not as due");
        if (wrong > 0) {
            System.exit(1);
        }
    }
}
