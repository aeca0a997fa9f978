/** Compares answers with those that are due, and ends a test with exit code 1 if one was wrong. */
final class Due {
    private static int wrong = 0;
    private static int compared = 0;

    private Due() {
    }

    static void is(String call, long got, long want) {
        compared++;
        if (got != want) {
            wrong++;
            System.out.println(call + " answered " + got + ", due is " + want);
        }
    }

    static void holds(String what, boolean got) {
        compared++;
        if (!got) {
            wrong++;
            System.out.println("does not hold: " + what);
        }
    }

    /** Types a text into an object. */
    static void type(LabelPlacer placer, String text) {
        for (int i = 0; i < text.length(); i++) {
            placer.type(text.charAt(i));
        }
    }

    static int wrongSoFar() {
        return wrong;
    }

    static void end() {
        System.out.println(compared + " answers, " + wrong + " not as due");
        if (wrong != 0 || compared == 0) {
            System.exit(1);
        }
    }
}
