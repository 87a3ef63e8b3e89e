/** Compares answers with those that are due, prints the wrong ones, and ends a test. */
final class Due {
    private static int wrong = 0;
    private static int asked = 0;
    private static String about = "";

    private Due() {
    }

    /** What the following comparisons are about; it stands before what is printed. */
    static void about(String subject) {
        about = subject;
    }

    static int countAsked() {
        return asked;
    }

    static void is(String what, long got, long want) {
        tell(what, Long.toString(got), Long.toString(want), got == want);
    }

    static void is(String what, boolean got, boolean want) {
        tell(what, Boolean.toString(got), Boolean.toString(want), got == want);
    }

    static void isReal(String what, double got, double want) {
        tell(what, Double.toString(got), Double.toString(want), Double.compare(got, want) == 0);
    }

    static void is(String what, String got, String want) {
        tell(what, got, want, got.equals(want));
    }

    /** The call throws an exception of exactly this class. */
    static void fails(String what, Class<? extends RuntimeException> kind, Runnable call) {
        String got = "nothing";
        try {
            call.run();
        } catch (RuntimeException e) {
            got = e.getClass().getSimpleName();
        }
        is(what + " throws", got, kind.getSimpleName());
    }

    private static void tell(String what, String got, String want, boolean isRight) {
        asked++;
        if (!isRight) {
            wrong++;
            System.out.println(about + what + ": answered " + got + ", due is " + want);
        }
    }

    static void end() {
        System.out.println(wrong == 0 ? asked + " answers are as due" : wrong + " of " + asked + " answers are not as due");
        if (wrong != 0) {
            System.exit(1);
        }
    }
}
