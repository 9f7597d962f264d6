import java.lang.reflect.Constructor;
import java.lang.reflect.Field;
import java.lang.reflect.Method;
import java.lang.reflect.Modifier;
import java.util.Arrays;
import java.util.Set;
import java.util.TreeSet;

/** The class has the document's face, with what each method throws, and no other member that is not private. */
public final class FaceTest {
    private static final String ARGUMENT = " throws IllegalArgumentException";
    private static final String STATE = " throws IllegalStateException";
    private static final String BOTH = " throws IllegalStateException, IllegalArgumentException";
    private static final String[] FACE = {
        "public static final int NONE", "public static final int CYCLE", "public static final int TANGLE",
        "public static final int MANY", "public PathTiming()", "public void clock(int, int)" + ARGUMENT,
        "public int input(int, int, int, int)" + ARGUMENT, "public int gate(int)" + ARGUMENT,
        "public int register()", "public int output()", "public void wire(int, int, int, int, int)" + ARGUMENT,
        "public void sense(int, int, int)" + ARGUMENT, "public void delay(int, int, int, int, int)" + ARGUMENT,
        "public void check(int, int, int, int)" + ARGUMENT, "public int analyse()", "public int cycle()",
        "public int ways(int)" + BOTH, "public int arrival(int, int, int, boolean)" + BOTH,
        "public int slack(int, int)" + BOTH, "public int worst(int)" + BOTH, "public int total(int)" + BOTH,
        "public int leastPeriod()" + STATE, "public int paths()" + STATE,
        "public int path(int, int)" + BOTH + ", IndexOutOfBoundsException",
        "public int element(int, int, int)" + BOTH + ", IndexOutOfBoundsException",
    };

    public static void main(String[] args) {
        Set<String> due = new TreeSet<>(Arrays.asList(FACE));
        Set<String> got = new TreeSet<>();
        for (Field f : PathTiming.class.getDeclaredFields()) {
            if (!Modifier.isPrivate(f.getModifiers())) {
                got.add(Modifier.toString(f.getModifiers()) + " " + f.getType() + " " + f.getName());
            }
        }
        for (Constructor<?> c : PathTiming.class.getDeclaredConstructors()) {
            if (!Modifier.isPrivate(c.getModifiers())) {
                got.add(Modifier.toString(c.getModifiers()) + " PathTiming" + types(c.getParameterTypes())
                        + thrown(c.getExceptionTypes()));
            }
        }
        for (Method m : PathTiming.class.getDeclaredMethods()) {
            if (!Modifier.isPrivate(m.getModifiers())) {
                got.add(Modifier.toString(m.getModifiers()) + " " + m.getReturnType() + " " + m.getName()
                        + types(m.getParameterTypes()) + thrown(m.getExceptionTypes()));
            }
        }
        boolean isFinal = Modifier.toString(PathTiming.class.getModifiers()).equals("public final");
        if (!got.equals(due) || !isFinal) {
            System.out.println("the face is " + got + ", due is " + due);
            System.exit(1);
        }
        if (!hasOnlyStaticClasses()) {
            System.out.println("a class inside is not static, or is seen from outside");
            System.exit(1);
        }
        System.out.println(got.size() + " members are as due");
    }

    private static String types(Class<?>[] types) {
        StringBuilder text = new StringBuilder("(");
        for (int i = 0; i < types.length; i++) {
            text.append(i == 0 ? "" : ", ").append(types[i]);
        }
        return text.append(")").toString();
    }

    private static String thrown(Class<?>[] types) {
        StringBuilder text = new StringBuilder();
        for (int i = 0; i < types.length; i++) {
            text.append(i == 0 ? " throws " : ", ").append(types[i].getSimpleName());
        }
        return text.toString();
    }

    private static boolean hasOnlyStaticClasses() {
        for (Class<?> c : PathTiming.class.getDeclaredClasses()) {
            boolean isSeen = Modifier.isPublic(c.getModifiers()) || Modifier.isProtected(c.getModifiers());
            if (isSeen || !Modifier.isStatic(c.getModifiers())) {
                return false;
            }
        }
        return true;
    }
}
