/** Counts the calls whose answer is not the one that is due. */
final class Check {
    interface Call {
        Object answer();
    }

    private static int checks = 0;
    private static int wrong = 0;
    private static String tested = "";

    private Check() {
    }

    static void due(String call, Object got, Object want) {
        checks++;
        if (!want.equals(got)) {
            wrong++;
            System.out.println(tested + call + " answered " + got + ", due is " + want);
        }
    }

    /** Runs the test of one sentence of the document; what is wrong in it is told with the sentence's words. */
    static void sentence(String words, Runnable test) {
        tested = "[" + words + "] ";
        int before = checks;
        due("the test", outcome(() -> {
            test.run();
            return "ended";
        }), "ended");
        due("checks were made", checks > before + 1, true);
        tested = "";
    }

    /** What a call answers, or the name of the exception that it throws. */
    static Object outcome(Call call) {
        try {
            return call.answer();
        } catch (RuntimeException e) {
            return "throws." + e.getClass().getSimpleName();
        }
    }

    static void argument(String name, Call call) {
        due(name, outcome(call), "throws.IllegalArgumentException");
    }

    static void state(String name, Call call) {
        due(name, outcome(call), "throws.IllegalStateException");
    }

    static void index(String name, Call call) {
        due(name, outcome(call), "throws.IndexOutOfBoundsException");
    }

    static void unsupported(String name, Call call) {
        due(name, outcome(call), "throws.UnsupportedOperationException");
    }

    /** Ends the program: with exit code 1 if an answer was wrong. */
    static void end() {
        System.out.println(checks + " checks, " + wrong + " wrong");
        System.exit(wrong == 0 && checks > 0 ? 0 : 1);
    }
}
