import com.sun.management.ThreadMXBean;
import java.lang.management.ManagementFactory;
import java.lang.reflect.Field;
import java.lang.reflect.Method;
import java.lang.reflect.Modifier;
import java.util.Set;
import java.util.TreeSet;

/** The public face is the document's and no more, and calls that come again allocate next to nothing. */
public final class FaceTests {
    private static final Set<String> METHODS = Set.of(
        "thing(int,boolean,int)", "step(int,int,int,boolean,int)", "change(int,int,int,int,boolean,int)", "check()",
        "found(int,int)", "way(int,int,int)", "closed(int)", "states(int,int)", "nodes(int)", "atOnce(int)",
        "run(int,int)", "ran(int)", "came(int)", "told(int,int)", "count(int)", "clear()");
    private static final Set<String> CONSTANTS = Set.of("NONE=-1", "UNKNOWN=-101", "OUTSIDE=-102", "STATE=-103", "ROOM=-104");

    private static int wrong = 0;

    private static void due(String what, Object got, Object want) {
        if (!got.equals(want)) {
            wrong++;
            System.out.println(what + ": " + got + ", due is " + want);
        }
    }

    public static void main(String[] args) throws IllegalAccessException {
        face();
        room();
        System.out.println(wrong == 0 ? "the face and the room are as due" : wrong + " not as due");
        if (wrong != 0) {
            System.exit(1);
        }
    }

    private static void face() throws IllegalAccessException {
        Set<String> methods = new TreeSet<>();
        Set<String> publicNames = new TreeSet<>();
        for (Method method : ResourceEnds.class.getDeclaredMethods()) {
            if (!Modifier.isPrivate(method.getModifiers())) {
                methods.add(signature(method));
                publicNames.add(method.getName());
                due(method + " answers", method.getReturnType(), int.class);
                due(method + " is public", Modifier.isPublic(method.getModifiers()), true);
            }
        }
        due("methods", methods, new TreeSet<>(METHODS));
        Set<String> constants = new TreeSet<>();
        for (Field field : ResourceEnds.class.getDeclaredFields()) {
            if (!Modifier.isPrivate(field.getModifiers())) {
                constants.add(field.getName() + "=" + field.getInt(null));
            }
            if (Modifier.isStatic(field.getModifiers())) {
                due(field + " is final", Modifier.isFinal(field.getModifiers()), true);
            }
        }
        due("constants", constants, new TreeSet<>(CONSTANTS));
        due("constructors", ResourceEnds.class.getDeclaredConstructors().length, 1);
        due("the class is final", Modifier.isFinal(ResourceEnds.class.getModifiers()), true);
        for (Class<?> inside : ResourceEnds.class.getDeclaredClasses()) {
            due(inside + " is static", Modifier.isStatic(inside.getModifiers()), true);
            for (Method method : inside.getDeclaredMethods()) {
                due(method + " bears a public name", publicNames.contains(method.getName()), false);
            }
        }
    }

    private static String signature(Method method) {
        StringBuilder text = new StringBuilder(method.getName()).append('(');
        String comma = "";
        for (Class<?> type : method.getParameterTypes()) {
            text.append(comma).append(type.getName());
            comma = ",";
        }
        return text.append(')').toString();
    }

    private static void room() {
        ThreadMXBean threads = (ThreadMXBean) ManagementFactory.getThreadMXBean();
        long thread = Thread.currentThread().getId();
        long before = threads.getThreadAllocatedBytes(thread);
        ResourceEnds x = new ResourceEnds();
        long made = threads.getThreadAllocatedBytes(thread);
        fill(x);
        for (int i = 0; i < 150; i++) {
            x.change(39, 1, i % 5, 0, false, ResourceEnds.NONE);
            x.check();
        }
        long used = threads.getThreadAllocatedBytes(thread);
        due("a new object is below a million bytes", made - before < 1_000_000, true);
        due("calls allocate next to nothing", used - made < 100_000, true);
    }

    /** Nearly all nodes are reached: each of five monitors is entered or not, in a loop. */
    private static void fill(ResourceEnds x) {
        for (int thing = 0; thing < 5; thing++) {
            x.thing(1, false, ResourceEnds.NONE);
        }
        for (int thing = 0; thing < 5; thing++) {
            x.step(4, 0, 2 * thing + 2, false, ResourceEnds.NONE);
            x.step(0, thing, 0, false, 2 * thing + 2);
        }
        x.step(4, 0, 0, false, ResourceEnds.NONE);
        while (x.count(1) < 40) {
            x.step(1, 0, 0, true, x.count(1) + 1 < 40 ? x.count(1) + 1 : ResourceEnds.NONE);
        }
    }
}
