import java.lang.reflect.Field;
import java.lang.reflect.Method;
import java.lang.reflect.Modifier;
import java.util.Set;
import java.util.TreeSet;

/** The public face, and that no call ever throws, whatever its arguments are. */
public final class FaceTest {
    private static final Check CHECK = new Check();
    private static final String FACE = "write/1 wipe/0 fault/0 lay/0 minute/3 known/1 watcher/2 where/2 begin/1 over/2 undo/0 "
        + "judge/0 plan/1 at/1 most/3 understand/3 soonest/2 ask/2 fair/2 mean/2 sure/1 fits/1 matters/1 night/3 keep/0 back/0 count/1";
    private static final int[] NUMBERS = {Integer.MIN_VALUE, -2, -1, 0, 1, 2, 3, 8, 59, 60, 199, 200, 255, 256, 9999, 10000, Integer.MAX_VALUE};
    private static final String[] TEXTS = {"s1;", "n1;s0;g3;w0,0;", "n60;s9;s9;s9;s9;g0;w3,3;u3,0,59,5;",
        "n60;s9;s9;s9;s9;g3;w3,3;w2,2;w1,1;w0,0;u3,0,59,5;u2,0,9,1;u1,5,50,9;u0,1,58,10;m0,0,59,9,7;b0,59,59;"};

    public static void main(String[] args) throws Exception {
        members();
        constants();
        for (String text : TEXTS) {
            everyNumber(text);
        }
        CHECK.end();
    }

    private static void members() {
        Class<OverAndBack> c = OverAndBack.class;
        CHECK.due("the class is public and final", c.getModifiers(), Modifier.PUBLIC | Modifier.FINAL);
        Set<String> found = new TreeSet<>();
        Set<String> hidden = new TreeSet<>();
        for (Method m : c.getDeclaredMethods()) {
            if (!Modifier.isPrivate(m.getModifiers())) {
                found.add(m.getName() + "/" + m.getParameterCount());
                CHECK.due(m.getName() + " is public", m.getModifiers(), Modifier.PUBLIC);
                CHECK.due(m.getName() + " answers an int", m.getReturnType() == int.class ? 1 : 0, 1);
            } else {
                hidden.add(m.getName());
            }
        }
        CHECK.due("the methods " + found, found.equals(new TreeSet<>(Set.of(FACE.split(" ")))) ? 1 : 0, 1);
        for (String method : FACE.split(" ")) {
            CHECK.due("a private " + method, hidden.contains(method.split("/")[0]) ? 1 : 0, 0);
        }
        CHECK.due("constructors", c.getDeclaredConstructors().length, 1);
        CHECK.due("constructor is public", c.getDeclaredConstructors()[0].getModifiers(), Modifier.PUBLIC);
        for (Class<?> inside : c.getDeclaredClasses()) {
            CHECK.due(inside + " is static", Modifier.isStatic(inside.getModifiers()) ? 1 : 0, 1);
        }
    }

    private static void constants() throws Exception {
        Set<String> found = new TreeSet<>();
        for (Field f : OverAndBack.class.getDeclaredFields()) {
            if (!Modifier.isPrivate(f.getModifiers())) {
                found.add(f.getName() + "=" + f.getInt(null));
                CHECK.due(f.getName() + " is a constant", f.getModifiers(), Modifier.PUBLIC | Modifier.STATIC | Modifier.FINAL);
            }
        }
        CHECK.due("the constants " + found, found.equals(Set.of("BAD=-1", "NO=-2", "FULL=-3", "NONE=-4")) ? 1 : 0, 1);
    }

    private static void everyNumber(String text) throws Exception {
        for (Method m : OverAndBack.class.getDeclaredMethods()) {
            if (Modifier.isPublic(m.getModifiers())) {
                everyArgument(text, m);
            }
        }
    }

    private static void everyArgument(String text, Method m) throws Exception {
        int many = m.getParameterCount();
        OverAndBack x = CHECK.laid(text);
        int calls = 0;
        for (int k = 0; k < Math.pow(NUMBERS.length, many); k++) {
            Object[] args = new Object[many];
            int rest = k;
            for (int p = 0; p < many; p++) {
                args[p] = NUMBERS[rest % NUMBERS.length];
                rest /= NUMBERS.length;
            }
            int answer = (Integer) m.invoke(x, args);
            CHECK.due(m.getName() + " answers what it may", answer >= -4 ? 1 : 0, 1);
            calls++;
            if (calls % 256 == 0) {
                x = CHECK.laid(text);
            }
        }
    }
}
