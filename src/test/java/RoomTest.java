import java.lang.reflect.Array;
import java.lang.reflect.Field;
import java.lang.reflect.Modifier;
import java.util.IdentityHashMap;
import java.util.Map;

/**
 * The room that all calls of a run share: some 600,000 objects and arrays, 7.3 million fields and elements.
 * An object takes its part when it is made; RulesTest sees to it that no call makes anything.
 */
public final class RoomTest {
    private static final Check CHECK = new Check();
    private static final int OBJECTS_OF_ONE = 100;
    private static final int ELEMENTS_OF_ONE = 8000;

    private final Map<Object, Boolean> met = new IdentityHashMap<>();
    private int elements = 0;

    public static void main(String[] args) throws Exception {
        OverAndBack x = new OverAndBack();
        look("a new object", x);
        Check.write(x, "n60;s9;s8;s7;s6;g0;m0,0,59,9,7;b1,0,9;u2,0,59,5;u3,0,59,5;f7,7,0;w3,0;w2,1;w1,2;w0,3;");
        x.lay();
        everyCall(x);
        look("behind every call", x);
        CHECK.end();
    }

    private static void look(String when, OverAndBack x) throws Exception {
        RoomTest room = new RoomTest();
        room.count(x);
        System.out.println(when + ": " + room.met.size() + " objects and arrays, " + room.elements + " fields and elements");
        CHECK.due(when + " objects", Math.max(OBJECTS_OF_ONE, room.met.size()), OBJECTS_OF_ONE);
        CHECK.due(when + " elements", Math.max(ELEMENTS_OF_ONE, room.elements), ELEMENTS_OF_ONE);
    }

    private static void everyCall(OverAndBack x) {
        x.fault();
        for (int k = 0; k < 10; k++) {
            x.over(k, k % 4);
            x.begin(k % 4);
            x.keep();
        }
        x.back();
        x.undo();
        x.judge();
        x.plan(0);
        x.at(0);
        x.minute(0, 0, 0);
        x.known(1);
        x.watcher(0, 5);
        x.where(0, 0);
        x.most(0, 0, 1);
        x.understand(3, 255, 0);
        x.soonest(3, 129);
        x.ask(0, 255);
        x.fair(0, 0);
        x.mean(0, 0);
        x.sure(-1);
        x.fits(129);
        x.matters(0);
        x.night(9999, 0, 1);
        x.count(0);
        x.wipe();
    }

    private void count(Object o) throws Exception {
        if (o == null || met.put(o, true) != null) {
            return;
        }
        if (o.getClass().isArray()) {
            elements += Array.getLength(o);
            return;
        }
        for (Field f : o.getClass().getDeclaredFields()) {
            if (!Modifier.isStatic(f.getModifiers())) {
                elements++;
                if (!f.getType().isPrimitive()) {
                    f.setAccessible(true);
                    count(f.get(o));
                }
            }
        }
    }
}
