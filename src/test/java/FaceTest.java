import java.lang.reflect.Constructor;
import java.lang.reflect.Field;
import java.lang.reflect.Member;
import java.lang.reflect.Method;
import java.lang.reflect.Modifier;
import java.util.Arrays;
import java.util.TreeSet;

/** The public face of the document, and nothing beside it (LANGUAGE.md, rule 1). */
public final class FaceTest {
    private static final String INDEX = "IndexOutOfBoundsException";
    private static final String ARGUMENT = "IllegalArgumentException";
    private static final String STATE = "IllegalStateException";

    public static void main(String[] args) {
        TreeSet<String> want = new TreeSet<>(Arrays.asList(
                "int NONE",
                "new()",
                "int dancer(int, int) " + INDEX + " " + STATE,
                "int move(int, int, int, int) " + INDEX + " " + ARGUMENT + " " + STATE,
                "int place(int, int, boolean) " + INDEX,
                "int placeAnew(int, int, boolean) " + INDEX,
                "int clashes(int) " + INDEX,
                "int firstClash()",
                "int lift(int, int, int, int) " + INDEX + " " + ARGUMENT + " " + STATE,
                "int ofLift(int, int) " + INDEX + " " + ARGUMENT,
                "int tempo(int, int) " + INDEX + " " + ARGUMENT,
                "int begins(int) " + INDEX + " ArithmeticException",
                "int rehearse(int, int, int, int) " + INDEX + " " + ARGUMENT + " " + STATE,
                "int rehearsal(int, int) " + INDEX,
                "int knees(int) " + INDEX,
                "int hurt(int) " + INDEX + " " + STATE,
                "int sleep()"));
        TreeSet<String> got = face();
        boolean shut = Modifier.isFinal(Stepscript.class.getModifiers())
                && Modifier.isPublic(Stepscript.class.getModifiers());
        boolean alike = got.equals(want) && shut;
        System.out.println("FaceTest: " + got.size() + " members, " + (alike ? "as due" : "not as due"));
        if (!alike) {
            System.out.println("got  " + got + "\ndue  " + want + "\npublic and final: " + shut);
            System.exit(1);
        }
    }

    private static TreeSet<String> face() {
        TreeSet<String> face = new TreeSet<>();
        for (Field field : Stepscript.class.getDeclaredFields()) {
            if (isOpen(field)) {
                face.add(field.getType().getSimpleName() + " " + field.getName());
            }
        }
        for (Constructor<?> made : Stepscript.class.getDeclaredConstructors()) {
            if (isOpen(made)) {
                face.add("new" + names(made.getParameterTypes()));
            }
        }
        for (Method method : Stepscript.class.getDeclaredMethods()) {
            if (isOpen(method)) {
                StringBuilder told = new StringBuilder(method.getReturnType().getSimpleName());
                told.append(' ').append(method.getName()).append(names(method.getParameterTypes()));
                for (Class<?> thrown : method.getExceptionTypes()) {
                    told.append(' ').append(thrown.getSimpleName());
                }
                face.add(told.toString());
            }
        }
        return face;
    }

    private static boolean isOpen(Member member) {
        return !member.isSynthetic() && !Modifier.isPrivate(member.getModifiers());
    }

    private static String names(Class<?>[] types) {
        StringBuilder names = new StringBuilder("(");
        for (int i = 0; i < types.length; i++) {
            names.append(i > 0 ? ", " : "").append(types[i].getSimpleName());
        }
        return names.append(')').toString();
    }
}
