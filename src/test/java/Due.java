/** Compares answers with those that are due, and counts what is wrong. */
final class Due {

    private static int wrong;

    private Due() {
    }

    static void same(int promise, String call, long got, long want) {
        if (got != want) {
            fault(promise, call + " answered " + got + ", due is " + want);
        }
    }

    /** Only the class itself is due: a class below it would be thrown by the machine. */
    static void thrown(int promise, String call, Class<?> want, Runnable body) {
        Class<?> got = null;
        try {
            body.run();
        } catch (RuntimeException broken) {
            got = broken.getClass();
        }
        if (got != want) {
            fault(promise, call + " threw " + got + ", due is " + want);
        }
    }

    static void fault(int promise, String text) {
        wrong++;
        System.out.println("promise " + promise + ": " + text);
    }

    static void end() {
        System.out.println(wrong == 0 ? "all answers are as due" : wrong + " answers are not as due");
        if (wrong > 0) {
            System.exit(1);
        }
    }
}
