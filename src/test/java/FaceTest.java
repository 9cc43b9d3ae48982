import java.lang.reflect.Constructor;
import java.lang.reflect.Field;
import java.lang.reflect.Method;
import java.lang.reflect.Modifier;
import java.util.Arrays;
import java.util.List;
import java.util.TreeSet;

/** The section "The public face": all of it, with the constants' values, and nothing else that is open. */
public final class FaceTest {
    private static final String CONSTANTS = "NONE = -1;BAD = -2;FULL = -3;ODD = -11;SHORT = -12;LONG = -13;SIDE = -14;DEEP = -15;"
        + "TWICE = -16;FREE = -17;MANY = -18;OVER = -19";
    private static final String METHODS = "clear[];symbol[boolean, int];feed[long, int];rule[];problem[];solve[int];solutions[];"
        + "answer[int, int, int];node[int, int, int];waiting[int, int];count[int]";
    private final Check check = new Check();

    public static void main(String[] args) throws IllegalAccessException {
        FaceTest test = new FaceTest();
        test.theClass();
        test.constants();
        test.constructor();
        test.methods();
        test.classesInside();
        test.namesInside();
        test.staticState();
        test.check.end();
    }

    private void theClass() {
        check.due("modifiers", NarrowSolver.class.getModifiers(), Modifier.PUBLIC | Modifier.FINAL);
        check.due("without a package", NarrowSolver.class.getPackageName().length(), 0);
        check.due("of no class but Object", NarrowSolver.class.getSuperclass() == Object.class ? 1 : 0, 1);
        check.due("interfaces", NarrowSolver.class.getInterfaces().length, 0);
    }

    private void same(String about, TreeSet<String> open, String written, String before) {
        TreeSet<String> different = new TreeSet<>(open);
        for (String each : written.split(";")) {
            if (!different.remove(before + each)) {
                different.add(before + each);
            }
        }
        check.due(about + " that only one of document and class has " + different, different.size(), 0);
    }

    private void constants() throws IllegalAccessException {
        TreeSet<String> open = new TreeSet<>();
        for (Field f : NarrowSolver.class.getDeclaredFields()) {
            if (!Modifier.isPrivate(f.getModifiers())) {
                String value = Modifier.isStatic(f.getModifiers()) ? " = " + f.get(null) : "";
                open.add(Modifier.toString(f.getModifiers()) + " " + f.getType() + " " + f.getName() + value);
            }
        }
        same("fields", open, CONSTANTS, "public static final int ");
    }

    private void constructor() {
        Constructor<?>[] all = NarrowSolver.class.getDeclaredConstructors();
        check.due("constructors", all.length, 1);
        check.due("it is public", all[0].getModifiers(), Modifier.PUBLIC);
        check.due("its arguments", all[0].getParameterCount(), 0);
    }

    private void methods() {
        TreeSet<String> open = new TreeSet<>();
        for (Method m : NarrowSolver.class.getDeclaredMethods()) {
            if (!Modifier.isPrivate(m.getModifiers())) {
                open.add(Modifier.toString(m.getModifiers()) + " " + m.getReturnType() + " " + m.getName()
                    + Arrays.toString(m.getParameterTypes()));
            }
        }
        same("methods", open, METHODS, "public int ");
    }

    private void classesInside() {
        for (Class<?> inside : NarrowSolver.class.getDeclaredClasses()) {
            int modifiers = inside.getModifiers();
            boolean open = Modifier.isPublic(modifiers) || Modifier.isProtected(modifiers);
            check.due(inside.getName() + " is static and not open", Modifier.isStatic(modifiers) && !open ? 1 : 0, 1);
        }
        check.due("at most some twelve classes", NarrowSolver.class.getDeclaredClasses().length <= 11 ? 1 : 0, 1);
    }

    /** No method that is not of the face bears a name of the face. */
    private void namesInside() {
        List<String> names = List.of("clear", "symbol", "feed", "rule", "problem", "solve", "solutions", "answer", "node", "waiting", "count");
        for (Method m : NarrowSolver.class.getDeclaredMethods()) {
            boolean hidden = Modifier.isPrivate(m.getModifiers());
            check.due("private " + m.getName(), hidden && names.contains(m.getName()) ? 1 : 0, 0);
        }
        for (Class<?> inside : NarrowSolver.class.getDeclaredClasses()) {
            for (Method m : inside.getDeclaredMethods()) {
                check.due(inside.getName() + "." + m.getName(), names.contains(m.getName()) ? 1 : 0, 0);
                check.due("its parameters", m.getParameterCount() <= 7 ? 1 : 0, 1);
            }
        }
    }

    private void staticState() {
        finalStatics(NarrowSolver.class);
        for (Class<?> inside : NarrowSolver.class.getDeclaredClasses()) {
            finalStatics(inside);
        }
    }

    private void finalStatics(Class<?> owner) {
        for (Field f : owner.getDeclaredFields()) {
            boolean loose = Modifier.isStatic(f.getModifiers()) && !Modifier.isFinal(f.getModifiers());
            check.due(owner.getName() + "." + f.getName() + " is no static state", loose ? 1 : 0, 0);
        }
    }
}
