/** Counts what is not as it is due; each test ends by closing it. */
final class Checks {
    interface Call {
        long answer();
    }

    private final String test;
    private int wrong = 0;
    private int checked = 0;

    Checks(String test) {
        this.test = test;
    }

    void due(long want, String call, Call made) {
        compare(call, told(made), Long.toString(want));
    }

    /** The class must be the very one: a class below it would be the machine's own exception. */
    void thrown(Class<? extends RuntimeException> want, String call, Call made) {
        compare(call, told(made), want.getName());
    }

    private static String told(Call made) {
        try {
            return Long.toString(made.answer());
        } catch (RuntimeException e) {
            return e.getClass().getName();
        }
    }

    void noPlace(String call, Call made) {
        thrown(IndexOutOfBoundsException.class, call, made);
    }

    void badArgument(String call, Call made) {
        thrown(IllegalArgumentException.class, call, made);
    }

    void refused(String call, Call made) {
        thrown(IllegalStateException.class, call, made);
    }

    private void compare(String call, String got, String want) {
        checked++;
        if (!got.equals(want)) {
            wrong++;
            System.out.println(test + ": " + call + " answered " + got + ", due is " + want);
        }
    }

    void close() {
        System.out.println(test + ": " + checked + " checks, " + wrong + " wrong");
        if (wrong > 0) {
            System.exit(1);
        }
    }
}
