import java.lang.reflect.Constructor;
import java.lang.reflect.Field;
import java.lang.reflect.Member;
import java.lang.reflect.Method;
import java.lang.reflect.Modifier;
import java.util.Arrays;
import java.util.Set;
import java.util.TreeSet;

/** "What it is" and "The public face": what can be seen of the class from outside, and up to which call it holds. */
public final class FaceTest {
    private static final int LAST_CALL = 512;

    private static final Set<String> FACE = Set.of(
        "act of 6", "guard of 5", "clean of 4", "clear of 1", "reserve of 1", "run of 3", "latest of 1", "cleaned of 2",
        "told of 2");

    public static void main(String[] args) throws Exception {
        Due due = new Due("face");
        classIsPublicAndFinal(due);
        constants(due);
        oneConstructor(due);
        nineMethods(due);
        classesInside(due);
        lastCallIsAsDue(due);
        due.end();
    }

    private static void classIsPublicAndFinal(Due due) {
        int modifiers = StepBudgets.class.getModifiers();
        due.is("the class is public", Modifier.isPublic(modifiers) ? 1 : 0, 1);
        due.is("the class is final", Modifier.isFinal(modifiers) ? 1 : 0, 1);
        due.is("the class has no package", StepBudgets.class.getPackageName().length(), 0);
        due.is("the class is no other's kind", StepBudgets.class.getSuperclass() == Object.class ? 1 : 0, 1);
        due.is("interfaces", StepBudgets.class.getInterfaces().length, 0);
    }

    private static void constants(Due due) throws Exception {
        Set<String> seen = new TreeSet<>();
        for (Field field : StepBudgets.class.getDeclaredFields()) {
            if (isSeen(field)) {
                seen.add(field.getName());
                boolean constant = field.getType() == int.class && Modifier.isStatic(field.getModifiers())
                    && Modifier.isFinal(field.getModifiers()) && Modifier.isPublic(field.getModifiers());
                due.is("constant " + field.getName(), constant ? 1 : 0, 1);
            }
        }
        due.is("the constants are " + seen, seen.equals(Set.of("BAD", "FULL", "NONE")) ? 1 : 0, 1);
        due.is("BAD", StepBudgets.class.getField("BAD").getInt(null), -1);
        due.is("FULL", StepBudgets.class.getField("FULL").getInt(null), -2);
        due.is("NONE", StepBudgets.class.getField("NONE").getInt(null), -3);
    }

    private static void oneConstructor(Due due) {
        Constructor<?>[] constructors = StepBudgets.class.getDeclaredConstructors();
        due.is("constructors", constructors.length, 1);
        due.is("it is public", Modifier.isPublic(constructors[0].getModifiers()) ? 1 : 0, 1);
        due.is("it takes nothing", constructors[0].getParameterCount(), 0);
        due.is("it throws nothing", constructors[0].getExceptionTypes().length, 0);
    }

    private static void nineMethods(Due due) {
        Set<String> seen = new TreeSet<>();
        for (Method method : StepBudgets.class.getDeclaredMethods()) {
            if (isSeen(method)) {
                String name = method.getName() + " of " + method.getParameterCount();
                seen.add(name);
                due.is(name + " is public", Modifier.isPublic(method.getModifiers()) ? 1 : 0, 1);
                due.is(name + " is of an object", Modifier.isStatic(method.getModifiers()) ? 1 : 0, 0);
                due.is(name + " takes ints and answers one", isOfInts(method) ? 1 : 0, 1);
                due.is(name + " throws nothing", method.getExceptionTypes().length, 0);
            }
        }
        due.is("the methods are " + seen, seen.equals(FACE) ? 1 : 0, 1);
    }

    private static boolean isOfInts(Method method) {
        return method.getReturnType() == int.class
            && Arrays.stream(method.getParameterTypes()).allMatch(type -> type == int.class);
    }

    private static boolean isSeen(Member member) {
        return !Modifier.isPrivate(member.getModifiers()) && !member.isSynthetic();
    }

    private static void classesInside(Due due) {
        for (Class<?> inside : StepBudgets.class.getDeclaredClasses()) {
            int modifiers = inside.getModifiers();
            due.is(inside + " is static", Modifier.isStatic(modifiers) ? 1 : 0, 1);
            due.is(inside + " is not public", Modifier.isPublic(modifiers) || Modifier.isProtected(modifiers) ? 1 : 0, 0);
        }
    }

    /** As dear a run as can be, asked up to the last call of which something is promised: no room may run out. */
    private static void lastCallIsAsDue(Due due) {
        StepBudgets x = new StepBudgets();
        // Rows of 7 places take the most places for their STEPS; a row that could not be made would throw at its SIZE.
        due.is("act", x.act(0, 0, 1, 7, 0, 0), 0);
        due.is("act", x.act(0, 8, 0, 2, 1, 0), 1);
        due.is("act", x.act(0, 11, 2, 0, 0, 0), 2);
        due.is("act", x.act(0, 6, 0, 1, 0, 0), 3);
        due.is("clean", x.clean(0, 0, 4, 0), 0);
        due.is("reserve", x.reserve(100), 10);
        for (int call = 7; call < LAST_CALL; call++) {
            due.is("run as call " + call, x.run(0, 0, 500), 1);
        }
        due.is("latest(3) as call " + LAST_CALL, x.latest(3), 100);
    }
}
