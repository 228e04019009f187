import java.util.Arrays;

/** A call as data: a name of the face and its arguments, where 1 stands for true and 0 for false. */
final class Line {
    private final String name;
    private final int[] args;

    Line(String name, int... args) {
        this.name = name;
        this.args = args;
    }

    /** The answer, or the exception's name. */
    String askedOf(Stepscript x) {
        try {
            return Integer.toString(answerOf(x));
        } catch (RuntimeException e) {
            return nameOf(e);
        }
    }

    /**
     * The name of the very class, for one below it would be the machine's own; what Stepscript has not thrown by a
     * throw of its own bears another name.
     */
    static String nameOf(RuntimeException e) {
        StackTraceElement[] trace = e.getStackTrace();
        boolean own = trace.length > 0 && trace[0].getClassName().startsWith("Stepscript");
        return (own ? "" : "the machine's ") + e.getClass().getName();
    }

    String askedOf(PlainHouse x) {
        try {
            return Integer.toString(answerOf(x));
        } catch (RuntimeException e) {
            return e.getClass().getName();
        }
    }

    static boolean isThrown(String answer) {
        return answer.endsWith("Exception");
    }

    private int answerOf(Stepscript x) {
        switch (name) {
            case "dancer": return x.dancer(args[0], args[1]);
            case "move": return x.move(args[0], args[1], args[2], args[3]);
            case "place": return x.place(args[0], args[1], args[2] == 1);
            case "placeAnew": return x.placeAnew(args[0], args[1], args[2] == 1);
            case "clashes": return x.clashes(args[0]);
            case "firstClash": return x.firstClash();
            case "lift": return x.lift(args[0], args[1], args[2], args[3]);
            case "ofLift": return x.ofLift(args[0], args[1]);
            case "tempo": return x.tempo(args[0], args[1]);
            case "begins": return x.begins(args[0]);
            case "rehearse": return x.rehearse(args[0], args[1], args[2], args[3]);
            case "rehearsal": return x.rehearsal(args[0], args[1]);
            case "knees": return x.knees(args[0]);
            case "hurt": return x.hurt(args[0]);
            case "sleep": return x.sleep();
            default: throw new AssertionError(this);
        }
    }

    private int answerOf(PlainHouse x) {
        switch (name) {
            case "dancer": return x.dancer(args[0], args[1]);
            case "move": return x.move(args[0], args[1], args[2], args[3]);
            case "place": return x.place(args[0], args[1], args[2] == 1);
            case "placeAnew": return x.place(args[0], args[1], args[2] == 1);
            case "clashes": return x.clashes(args[0]);
            case "firstClash": return x.firstClash();
            case "lift": return x.lift(args[0], args[1], args[2], args[3]);
            case "ofLift": return x.ofLift(args[0], args[1]);
            case "tempo": return x.tempo(args[0], args[1]);
            case "begins": return x.begins(args[0]);
            case "rehearse": return x.rehearse(args[0], args[1], args[2], args[3]);
            case "rehearsal": return x.rehearsal(args[0], args[1]);
            case "knees": return x.knees(args[0]);
            case "hurt": return x.hurt(args[0]);
            case "sleep": return x.sleep();
            default: throw new AssertionError(this);
        }
    }

    @Override
    public String toString() {
        return name + Arrays.toString(args);
    }
}
