/** Counts what is not as due, and says it. */
final class Check {
    interface Call {
        Object run();
    }

    private static final int MOST_SAID = 40;
    private static int made = 0;
    private static int wrong = 0;

    private Check() {
    }

    static void same(String what, Object got, Object due) {
        made++;
        if (!got.equals(due)) {
            wrong++;
            if (wrong <= MOST_SAID) {
                System.out.println(what + " answered " + got + ", due is " + due);
            }
        }
    }

    static void isTrue(String what, boolean is) {
        same(what, is, true);
    }

    /** The call throws just this exception, and the digest is what it was. */
    static void refuses(String what, Creasebook book, Class<?> due, Call call) {
        long before = book.digest();
        same(what, outcome(call), due.getSimpleName());
        same("digest() behind " + what, book.digest(), before);
    }

    /** The answer, or the name of what was thrown: so that two objects can be held against each other. */
    static Object outcome(Call call) {
        try {
            return call.run();
        } catch (RuntimeException e) {
            return e.getClass().getSimpleName();
        }
    }

    static void end(String test) {
        System.out.println(test + ": " + made + " checks, " + wrong + " wrong");
        if (wrong > 0) {
            System.exit(1);
        }
    }
}
