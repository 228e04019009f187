import java.lang.reflect.Constructor;
import java.lang.reflect.Field;
import java.lang.reflect.Method;
import java.lang.reflect.Modifier;
import java.util.ArrayList;
import java.util.Arrays;
import java.util.List;
import java.util.TreeSet;

/** What can be seen in the compiled class of the rules 1 to 3, 5, 6 and 11 of LANGUAGE.md. */
public final class LanguageTest {
    private static final int MOST_CLASSES = 12;
    private static final int MOST_FIELDS = 20;
    private static final int MOST_PARAMETERS = 7;
    private static final List<String> NUMBERS =
            Arrays.asList("int", "long", "short", "byte", "char", "boolean", "double", "float");
    private static final List<String> OF_THE_LIBRARY =
            Arrays.asList("String", "StringBuilder", "Integer", "ArrayList", "List");
    private static final List<String> CONSTANTS =
            Arrays.asList("int", "long", "boolean", "char", "String", "int[]", "long[]", "char[]", "byte[]");

    private static final Checks c = new Checks("LanguageTest");
    private static final List<Class<?>> own = new ArrayList<>();

    public static void main(String[] args) {
        gather(Stepscript.class);
        holds("at most " + MOST_CLASSES + " classes", own.size() <= MOST_CLASSES);
        namesOfPrivateMethods();
        for (Class<?> each : own) {
            kind(each);
            fields(each);
            methods(each);
        }
        c.close();
    }

    private static void gather(Class<?> from) {
        own.add(from);
        for (Class<?> inside : from.getDeclaredClasses()) {
            gather(inside);
        }
    }

    private static void holds(String rule, boolean kept) {
        c.alike(rule, kept ? "kept" : "broken", "kept");
    }

    /** "No private method bears the name of a public one." */
    private static void namesOfPrivateMethods() {
        TreeSet<String> open = new TreeSet<>();
        for (Method method : Stepscript.class.getDeclaredMethods()) {
            if (Modifier.isPublic(method.getModifiers())) {
                open.add(method.getName());
            }
        }
        for (Method method : Stepscript.class.getDeclaredMethods()) {
            boolean shut = Modifier.isPrivate(method.getModifiers());
            holds(method.getName() + " is not the name of a public one", !shut || !open.contains(method.getName()));
        }
    }

    /** "private or package-visible and static"; "no exception classes of your own". */
    private static void kind(Class<?> each) {
        int modifiers = each.getModifiers();
        boolean hidden = !Modifier.isPublic(modifiers) && !Modifier.isProtected(modifiers);
        holds(each + " is inside, hidden and static",
                each == Stepscript.class || hidden && Modifier.isStatic(modifiers));
        holds(each + " is no exception", !Throwable.class.isAssignableFrom(each));
    }

    /** "Static fields are final"; the types that rule 3 lists; "a class some twenty fields beside its constants". */
    private static void fields(Class<?> each) {
        int ofObjects = 0;
        for (Field field : each.getDeclaredFields()) {
            String type = field.getType().getSimpleName();
            String name = each.getSimpleName() + "." + field.getName();
            if (Modifier.isStatic(field.getModifiers())) {
                holds(name + " is final", Modifier.isFinal(field.getModifiers()));
                holds(name + " is a constant's type", CONSTANTS.contains(type));
            } else {
                ofObjects++;
                holds(name + " is of a type that is listed", isListed(field.getType()));
            }
        }
        holds(each + " has at most " + MOST_FIELDS + " fields", ofObjects <= MOST_FIELDS);
    }

    private static boolean isListed(Class<?> type) {
        if (!type.isArray()) {
            String name = type.getSimpleName();
            return NUMBERS.contains(name) || OF_THE_LIBRARY.contains(name) || own.contains(type);
        }
        Class<?> element = type.getComponentType();
        return element.isArray() ? NUMBERS.contains(element.getComponentType().getSimpleName())
                : NUMBERS.contains(element.getSimpleName()) || own.contains(element);
    }

    /** At most seven parameters; no lambda; no synchronized; no equals, hashCode or toString. */
    private static void methods(Class<?> each) {
        for (Constructor<?> made : each.getDeclaredConstructors()) {
            holds("new " + each.getSimpleName() + " has few parameters", made.getParameterCount() <= MOST_PARAMETERS);
        }
        for (Method method : each.getDeclaredMethods()) {
            String name = each.getSimpleName() + "." + method.getName();
            holds(name + " has few parameters", method.getParameterCount() <= MOST_PARAMETERS);
            holds(name + " is no lambda", !method.isSynthetic());
            holds(name + " is not synchronized", !Modifier.isSynchronized(method.getModifiers()));
            holds(name + " is the class's own", !name.matches(".*\\.(equals|hashCode|toString)"));
        }
    }
}
