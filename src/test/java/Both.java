import java.lang.reflect.Method;
import java.lang.reflect.Modifier;
import java.util.ArrayList;
import java.util.Arrays;
import java.util.List;
import java.util.Map;
import java.util.TreeMap;

/** A new StageFights and a new Plain that get the same calls and must answer alike. */
final class Both {
    /** So many calls an object is promised. */
    static final int CALLS = 512;
    static final Map<String, Method> OURS = methods(StageFights.class);
    private static final Map<String, Method> PLAIN = methods(Plain.class);

    /** For what is asked beside the run, so that it counts as no call. */
    final Plain plain = new Plain();
    private final StageFights x = new StageFights();
    private final List<String> told = new ArrayList<>();
    private boolean differs = false;

    int calls() {
        return told.size();
    }

    boolean differs() {
        return differs;
    }

    int call(String name, Object... args) {
        String row = name + Arrays.toString(args);
        try {
            int got = (int) OURS.get(name).invoke(x, args);
            int due = (int) PLAIN.get(name).invoke(plain, args);
            told.add(row + " answered " + got);
            if (got != due) {
                show("due is " + due);
            }
            return got;
        } catch (ReflectiveOperationException thrown) {
            told.add(row + " threw " + thrown.getCause());
            show("no call throws");
            return 0;
        }
    }

    private void show(String last) {
        differs = true;
        for (String row : told) {
            System.out.println(row);
        }
        System.out.println(last);
    }

    private static Map<String, Method> methods(Class<?> owner) {
        Map<String, Method> all = new TreeMap<>();
        for (Method m : owner.getDeclaredMethods()) {
            if (Modifier.isPublic(m.getModifiers()) && !Modifier.isStatic(m.getModifiers())) {
                m.setAccessible(true);
                all.put(m.getName(), m);
            }
        }
        return all;
    }
}
