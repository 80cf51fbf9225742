/** What all tests use: each wrong answer is printed, and ends the test with exit code 1. */
final class Checks {
    private static int checks = 0;
    private static int wrong = 0;

    private Checks() {
    }

    static void is(String what, long got, long due) {
        checks++;
        if (got != due) {
            wrong++;
            System.out.println(what + " answered " + got + ", due is " + due);
        }
    }

    static void is(String what, boolean got, boolean due) {
        is(what, got ? 1 : 0, due ? 1 : 0);
    }

    static void right() {
        checks++;
    }

    static void wrong(String what) {
        checks++;
        wrong++;
        System.out.println(what);
    }

    static void fails(String what, Class<? extends RuntimeException> due, Runnable call) {
        checks++;
        String got = "nothing";
        try {
            call.run();
        } catch (RuntimeException thrown) {
            got = thrown.getClass().getSimpleName();
        }
        if (!got.equals(due.getSimpleName())) {
            wrong++;
            System.out.println(what + " threw " + got + ", due is " + due.getSimpleName());
        }
    }

    static void noSuch(String what, Runnable call) {
        fails(what, IndexOutOfBoundsException.class, call);
    }

    static void outOfRange(String what, Runnable call) {
        fails(what, IllegalArgumentException.class, call);
    }

    static void notTaken(String what, Runnable call) {
        fails(what, IllegalStateException.class, call);
    }

    static void end(String test) {
        System.out.println(test + ": " + checks + " checks, " + wrong + " wrong");
        if (wrong != 0) {
            System.exit(1);
        }
    }
}
