import java.util.NoSuchElementException;

/** Counts and prints answers that are not as due. */
final class Expect {
    private static int wrong = 0;

    private Expect() {
    }

    static void that(String what, boolean holds) {
        if (!holds) {
            wrong++;
            System.out.println("not so: " + what);
        }
    }

    static void same(String what, long got, long want) {
        if (got != want) {
            wrong++;
            System.out.println(what + " answered " + got + ", due is " + want);
        }
    }

    static void illegalArgument(String what, Runnable call) {
        throwsExactly(what, call, IllegalArgumentException.class);
    }

    static void illegalState(String what, Runnable call) {
        throwsExactly(what, call, IllegalStateException.class);
    }

    static void noSuchElement(String what, Runnable call) {
        throwsExactly(what, call, NoSuchElementException.class);
    }

    private static void throwsExactly(String what, Runnable call, Class<?> want) {
        Object got = "nothing";
        try {
            call.run();
        } catch (RuntimeException e) {
            got = e.getClass();
        }
        if (got != want) {
            wrong++;
            System.out.println(what + " threw " + got + ", due is " + want);
        }
    }

    static void end() {
        if (wrong != 0) {
            System.out.println(wrong + " answers are not as due");
            System.exit(1);
        }
        System.out.println("all answers are as due");
    }
}
