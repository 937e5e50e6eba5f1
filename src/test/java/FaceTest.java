import java.lang.reflect.Constructor;
import java.lang.reflect.Field;
import java.lang.reflect.Member;
import java.lang.reflect.Method;
import java.lang.reflect.Modifier;
import java.util.Set;
import java.util.TreeSet;

/** The public face of the document: its members, their throws clauses, and no others. */
final class FaceTest {
    private static final String INDEX = " IndexOutOfBoundsException";
    private static final String ILLEGAL = " IllegalArgumentException";
    private static final String STATE = " IllegalStateException";

    private static final String[] FACE = {
        "int block(2)" + ILLEGAL + STATE,
        "int discard(1)" + INDEX + STATE,
        "int calibrate(1)" + INDEX + STATE,
        "int hold(2)" + INDEX + ILLEGAL,
        "int rest(1)" + ILLEGAL,
        "int set(2)" + INDEX + ILLEGAL,
        "int wring(2)" + INDEX,
        "int takeOff(1)" + INDEX + STATE,
        "int make(2)" + INDEX + ILLEGAL + STATE,
        "int append(1)" + ILLEGAL + STATE,
        "int clearBuffer(0)",
        "int firstError(0)",
        "int execute(0)" + ILLEGAL,
        "int undo(0)" + STATE,
        "int keep(1)" + ILLEGAL,
        "int goBack(1)" + ILLEGAL + STATE,
        "int blockOf(2)" + INDEX + ILLEGAL,
        "int stackOf(2)" + INDEX + ILLEGAL,
        "int ranked(2)" + ILLEGAL,
        "int lengths(1)" + ILLEGAL,
        "int count(1)" + ILLEGAL,
        "int setting(1)" + INDEX,
        "int refusal(2)" + INDEX,
        "int fewest(2)" + ILLEGAL,
        "int oldWay(2)" + ILLEGAL,
        "int nearest(1)" + ILLEGAL,
        "int coolIn(1)" + INDEX,
        "int lengthIn(2)" + INDEX + ILLEGAL,
        "double meanError(0)",
    };

    private FaceTest() {
    }

    public static void main(String[] args) {
        Checks.due("NONE", GaugeBlocks.NONE, -1);
        Checks.dueTrue("the class is public and final",
            Modifier.isPublic(GaugeBlocks.class.getModifiers()) && Modifier.isFinal(GaugeBlocks.class.getModifiers()));
        checkMethods();
        checkOtherMembers();
        checkClassesInside();
        Checks.end("FaceTest");
    }

    private static void checkMethods() {
        Set<String> open = new TreeSet<>();
        Set<String> publicNames = new TreeSet<>();
        Set<String> privateNames = new TreeSet<>();
        for (Method method : GaugeBlocks.class.getDeclaredMethods()) {
            if (Modifier.isPrivate(method.getModifiers())) {
                privateNames.add(method.getName());
            } else {
                open.add(signature(method));
                publicNames.add(method.getName());
                Checks.dueTrue(method + " is public", Modifier.isPublic(method.getModifiers()));
            }
        }
        Checks.dueTrue("the methods are " + open, open.equals(Set.of(FACE)));
        for (Class<?> inside : GaugeBlocks.class.getDeclaredClasses()) {
            for (Method method : inside.getDeclaredMethods()) {
                privateNames.add(method.getName());
            }
        }
        privateNames.retainAll(publicNames);
        Checks.dueTrue("private methods with public names: " + privateNames, privateNames.isEmpty());
    }

    private static String signature(Method method) {
        StringBuilder out = new StringBuilder();
        out.append(method.getReturnType()).append(' ').append(method.getName());
        out.append('(').append(method.getParameterCount()).append(')');
        for (Class<?> thrown : method.getExceptionTypes()) {
            out.append(' ').append(thrown.getSimpleName());
        }
        return out.toString();
    }

    private static void checkOtherMembers() {
        for (Constructor<?> constructor : GaugeBlocks.class.getDeclaredConstructors()) {
            Checks.dueTrue(constructor + " is the public one without arguments",
                Modifier.isPublic(constructor.getModifiers()) && constructor.getParameterCount() == 0);
        }
        for (Field field : GaugeBlocks.class.getDeclaredFields()) {
            Checks.dueTrue(field + " is private or NONE", isPrivate(field) || field.getName().equals("NONE"));
            Checks.dueTrue(field + " is final if it is static",
                !Modifier.isStatic(field.getModifiers()) || Modifier.isFinal(field.getModifiers()));
        }
    }

    private static void checkClassesInside() {
        for (Class<?> inside : GaugeBlocks.class.getDeclaredClasses()) {
            int modifiers = inside.getModifiers();
            Checks.dueTrue(inside + " is static and not public", Modifier.isStatic(modifiers)
                && !Modifier.isPublic(modifiers) && !Modifier.isProtected(modifiers));
        }
    }

    private static boolean isPrivate(Member member) {
        return Modifier.isPrivate(member.getModifiers());
    }
}
