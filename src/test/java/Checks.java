/** Counts what is not as it is due; each test ends by closing it. */
final class Checks {
    interface Call {
        long answer();
    }

    private final String test;
    private int wrong = 0;
    private int checked = 0;

    Checks(String test) {
        this.test = test;
    }

    void due(long want, String call, Call made) {
        alike(call, told(made), Long.toString(want));
    }

    void thrown(Class<? extends RuntimeException> want, String call, Call made) {
        alike(call, told(made), want.getName());
    }

    private static String told(Call made) {
        try {
            return Long.toString(made.answer());
        } catch (RuntimeException e) {
            return Line.nameOf(e);
        }
    }

    void noPlace(String call, Call made) {
        thrown(IndexOutOfBoundsException.class, call, made);
    }

    void badArgument(String call, Call made) {
        thrown(IllegalArgumentException.class, call, made);
    }

    void refused(String call, Call made) {
        thrown(IllegalStateException.class, call, made);
    }

    // The same for calls told as lines, where the arguments come out of loops.

    void due(long want, Stepscript x, String name, int... args) {
        line(Long.toString(want), x, name, args);
    }

    void noPlace(Stepscript x, String name, int... args) {
        line(IndexOutOfBoundsException.class.getName(), x, name, args);
    }

    void badArgument(Stepscript x, String name, int... args) {
        line(IllegalArgumentException.class.getName(), x, name, args);
    }

    void refused(Stepscript x, String name, int... args) {
        line(IllegalStateException.class.getName(), x, name, args);
    }

    void beyond(Stepscript x, String name, int... args) {
        line(ArithmeticException.class.getName(), x, name, args);
    }

    private void line(String want, Stepscript x, String name, int... args) {
        Line call = new Line(name, args);
        alike(call, call.askedOf(x), want);
    }

    boolean alike(Object call, String got, String want) {
        checked++;
        boolean alike = got.equals(want);
        if (!alike) {
            wrong++;
            System.out.println(test + ": " + call + " answered " + got + ", due is " + want);
        }
        return alike;
    }

    void close() {
        System.out.println(test + ": " + checked + " checks, " + wrong + " wrong");
        if (wrong > 0) {
            System.exit(1);
        }
    }
}
