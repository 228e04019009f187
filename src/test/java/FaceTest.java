import java.lang.reflect.Constructor;
import java.lang.reflect.Field;
import java.lang.reflect.Member;
import java.lang.reflect.Method;
import java.lang.reflect.Modifier;
import java.util.Arrays;
import java.util.TreeSet;

/** The public face of the document, and nothing beside it (LANGUAGE.md, rule 1). */
public final class FaceTest {
    private static final String INDEX = "IndexOutOfBoundsException";
    private static final String ARGUMENT = "IllegalArgumentException";
    private static final String STATE = "IllegalStateException";

    public static void main(String[] args) {
        TreeSet<String> want = new TreeSet<>(Arrays.asList(
                "public static final int NONE",
                "public new()",
                "public int dancer(int, int) " + INDEX + " " + STATE,
                "public int move(int, int, int, int) " + INDEX + " " + ARGUMENT + " " + STATE,
                "public int place(int, int, boolean) " + INDEX,
                "public int placeAnew(int, int, boolean) " + INDEX,
                "public int clashes(int) " + INDEX,
                "public int firstClash()",
                "public int lift(int, int, int, int) " + INDEX + " " + ARGUMENT + " " + STATE,
                "public int ofLift(int, int) " + INDEX + " " + ARGUMENT,
                "public int tempo(int, int) " + INDEX + " " + ARGUMENT,
                "public int begins(int) " + INDEX + " ArithmeticException",
                "public int rehearse(int, int, int, int) " + INDEX + " " + ARGUMENT + " " + STATE,
                "public int rehearsal(int, int) " + INDEX,
                "public int knees(int) " + INDEX,
                "public int hurt(int) " + INDEX + " " + STATE,
                "public int sleep()"));
        TreeSet<String> got = face();
        boolean shut = Modifier.isFinal(Stepscript.class.getModifiers())
                && Modifier.isPublic(Stepscript.class.getModifiers());
        boolean alike = got.equals(want) && shut && Stepscript.NONE == -1;
        System.out.println("FaceTest: " + got.size() + " members, " + (alike ? "as due" : "not as due"));
        if (!alike) {
            System.out.println("got  " + got + "\ndue  " + want + "\npublic and final: " + shut + ", NONE: " + Stepscript.NONE);
            System.exit(1);
        }
    }

    private static TreeSet<String> face() {
        TreeSet<String> face = new TreeSet<>();
        for (Field field : Stepscript.class.getDeclaredFields()) {
            if (isOpen(field)) {
                face.add(Modifier.toString(field.getModifiers()) + " " + field.getType().getSimpleName()
                        + " " + field.getName());
            }
        }
        for (Constructor<?> made : Stepscript.class.getDeclaredConstructors()) {
            if (isOpen(made)) {
                face.add(Modifier.toString(made.getModifiers()) + " new" + names(made.getParameterTypes()));
            }
        }
        for (Method method : Stepscript.class.getDeclaredMethods()) {
            if (isOpen(method)) {
                StringBuilder told = new StringBuilder(Modifier.toString(method.getModifiers()));
                told.append(' ').append(method.getReturnType().getSimpleName());
                told.append(' ').append(method.getName()).append(names(method.getParameterTypes()));
                for (Class<?> thrown : method.getExceptionTypes()) {
                    told.append(' ').append(thrown.getSimpleName());
                }
                face.add(told.toString());
            }
        }
        return face;
    }

    private static boolean isOpen(Member member) {
        return !member.isSynthetic() && !Modifier.isPrivate(member.getModifiers());
    }

    private static String names(Class<?>[] types) {
        StringBuilder names = new StringBuilder("(");
        for (int i = 0; i < types.length; i++) {
            names.append(i > 0 ? ", " : "").append(types[i].getSimpleName());
        }
        return names.append(')').toString();
    }
}
