import java.lang.reflect.Constructor;
import java.lang.reflect.Field;
import java.lang.reflect.Method;
import java.lang.reflect.Modifier;
import java.util.Arrays;
import java.util.Set;
import java.util.TreeSet;

/** The class has the document's face and no other member that is not private. */
public final class FaceTest {
    private static final String[] FACE = {
        "public static final int NONE", "public static final int CYCLE", "public static final int TANGLE",
        "public static final int MANY", "public PathTiming()", "public void clock(int, int)",
        "public int input(int, int, int, int)", "public int gate(int)", "public int register()",
        "public int output()", "public void wire(int, int, int, int, int)", "public void sense(int, int, int)",
        "public void delay(int, int, int, int, int)", "public void check(int, int, int, int)",
        "public int analyse()", "public int cycle()", "public int ways(int)",
        "public int arrival(int, int, int, boolean)", "public int slack(int, int)", "public int worst(int)",
        "public int total(int)", "public int leastPeriod()", "public int paths()", "public int path(int, int)",
        "public int element(int, int, int)",
    };

    public static void main(String[] args) {
        Set<String> due = new TreeSet<>(Arrays.asList(FACE));
        Set<String> got = new TreeSet<>();
        for (Field f : PathTiming.class.getDeclaredFields()) {
            if (!Modifier.isPrivate(f.getModifiers())) {
                got.add(Modifier.toString(f.getModifiers()) + " " + f.getType() + " " + f.getName());
            }
        }
        for (Constructor<?> c : PathTiming.class.getDeclaredConstructors()) {
            if (!Modifier.isPrivate(c.getModifiers())) {
                got.add(Modifier.toString(c.getModifiers()) + " PathTiming" + types(c.getParameterTypes()));
            }
        }
        for (Method m : PathTiming.class.getDeclaredMethods()) {
            if (!Modifier.isPrivate(m.getModifiers())) {
                got.add(Modifier.toString(m.getModifiers()) + " " + m.getReturnType() + " " + m.getName()
                        + types(m.getParameterTypes()));
            }
        }
        boolean isFinal = Modifier.toString(PathTiming.class.getModifiers()).equals("public final");
        if (!got.equals(due) || !isFinal) {
            System.out.println("the face is " + got + ", due is " + due);
            System.exit(1);
        }
        System.out.println(got.size() + " members are as due");
    }

    private static String types(Class<?>[] types) {
        StringBuilder text = new StringBuilder("(");
        for (int i = 0; i < types.length; i++) {
            text.append(i == 0 ? "" : ", ").append(types[i]);
        }
        return text.append(")").toString();
    }
}
