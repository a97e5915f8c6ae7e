import java.lang.reflect.Constructor;
import java.lang.reflect.Field;
import java.lang.reflect.Method;
import java.lang.reflect.Modifier;
import java.util.Arrays;
import java.util.Set;
import java.util.TreeSet;

/** The class has the document's face, and nothing besides that can be seen from outside. */
public final class FaceTest {
    private static final String[] FACE = {
        "int NONE",
        "SelfArranger(int)",
        "int insert(int, int, int) IllegalArgumentException UnsupportedOperationException",
        "void delete(int) IndexOutOfBoundsException",
        "void change(int, int, int) IndexOutOfBoundsException IllegalArgumentException",
        "int value(int, int) IndexOutOfBoundsException",
        "void where(int, int, int, int) IndexOutOfBoundsException IllegalArgumentException",
        "void order(int, int) IndexOutOfBoundsException IllegalArgumentException",
        "int ask()",
        "int answer(int) IndexOutOfBoundsException",
        "int last(int) IndexOutOfBoundsException",
        "int cost(int) IndexOutOfBoundsException",
        "int index(int, int) IndexOutOfBoundsException",
        "int shapes()",
        "int shape(int, int) IndexOutOfBoundsException",
        "int changes()",
        "int period()",
        "void budget(int) IllegalArgumentException",
        "int choose()",
        "long costOf(int) IllegalArgumentException",
        "void build(int) IndexOutOfBoundsException IllegalStateException",
        "int work(int) IllegalArgumentException IllegalStateException",
        "boolean drop(int) IndexOutOfBoundsException",
    };

    public static void main(String[] args) {
        Check check = new Check();
        check.part("face");
        check.same("modifiers of the class", SelfArranger.class.getModifiers(), Modifier.PUBLIC | Modifier.FINAL);
        check.same("NONE", SelfArranger.NONE, -1);
        Set<String> due = new TreeSet<>(Arrays.asList(FACE));
        Set<String> seen = seen();
        for (String member : due) {
            check.yes("the class has " + member, seen.contains(member));
        }
        for (String member : seen) {
            check.yes("the document has " + member, due.contains(member));
        }
        privateNames(check);
        check.end();
    }

    private static Set<String> seen() {
        Set<String> seen = new TreeSet<>();
        for (Field field : SelfArranger.class.getDeclaredFields()) {
            if (!Modifier.isPrivate(field.getModifiers())) {
                seen.add(field.getType() + " " + field.getName());
            }
        }
        for (Constructor<?> constructor : SelfArranger.class.getDeclaredConstructors()) {
            if (!Modifier.isPrivate(constructor.getModifiers())) {
                seen.add("SelfArranger" + names("(", ", ", ")", constructor.getParameterTypes()));
            }
        }
        for (Method method : SelfArranger.class.getDeclaredMethods()) {
            if (!Modifier.isPrivate(method.getModifiers())) {
                seen.add(method.getReturnType() + " " + method.getName()
                        + names("(", ", ", ")", method.getParameterTypes())
                        + (method.getExceptionTypes().length == 0 ? "" : names(" ", " ", "",
                            method.getExceptionTypes())));
            }
        }
        return seen;
    }

    private static String names(String before, String between, String behind, Class<?>[] types) {
        StringBuilder text = new StringBuilder(before);
        for (int k = 0; k < types.length; k++) {
            text.append(k == 0 ? "" : between).append(types[k].getSimpleName());
        }
        return text.append(behind).toString();
    }

    /** Rule 1 of LANGUAGE.md: no private method bears the name of a public one. */
    private static void privateNames(Check check) {
        Set<String> publicNames = new TreeSet<>();
        for (Method method : SelfArranger.class.getDeclaredMethods()) {
            if (Modifier.isPublic(method.getModifiers())) {
                publicNames.add(method.getName());
            }
        }
        ownNames(check, SelfArranger.class, publicNames);
        for (Class<?> inside : SelfArranger.class.getDeclaredClasses()) {
            ownNames(check, inside, publicNames);
        }
    }

    private static void ownNames(Check check, Class<?> type, Set<String> publicNames) {
        for (Method method : type.getDeclaredMethods()) {
            check.yes(type.getSimpleName() + "." + method.getName() + " has a name of its own",
                    !Modifier.isPrivate(method.getModifiers()) || !publicNames.contains(method.getName()));
        }
    }
}
