import java.lang.reflect.Array;
import java.lang.reflect.Field;
import java.lang.reflect.Modifier;
import java.util.ArrayList;
import java.util.IdentityHashMap;
import java.util.List;
import java.util.Map;

/**
 * A copy of an object, made without a call of it: an object is promised 512 calls alone, so what a test wants to see of one
 * again and again it asks of twins.
 */
final class Twin {
    /** Each part of the object, and the part of its twin that stands for it. */
    private final Map<Object, Object> parts = new IdentityHashMap<>();

    private Twin() {
    }

    static StageFights of(StageFights x) {
        StageFights twin = new StageFights();
        Twin both = new Twin();
        try {
            both.pair(x, twin);
            for (Map.Entry<Object, Object> part : both.parts.entrySet()) {
                both.fill(part.getKey(), part.getValue());
            }
        } catch (IllegalAccessException never) {
            throw new IllegalStateException(never);
        }
        return twin;
    }

    private static List<Field> fields(Object part) {
        List<Field> all = new ArrayList<>();
        for (Field f : part.getClass().getDeclaredFields()) {
            if (!Modifier.isStatic(f.getModifiers())) {
                f.setAccessible(true);
                all.add(f);
            }
        }
        return all;
    }

    /** What constructors made for good stands on both sides at the same place; what came later (texts) is shared. */
    private void pair(Object one, Object other) throws IllegalAccessException {
        if (one == null || other == null || parts.containsKey(one)) {
            return;
        }
        parts.put(one, other);
        if (one instanceof Object[]) {
            for (int i = 0; i < Array.getLength(one); i++) {
                pair(Array.get(one, i), Array.get(other, i));
            }
        } else if (!one.getClass().isArray()) {
            for (Field f : fields(one)) {
                if (Modifier.isFinal(f.getModifiers()) && !f.getType().isPrimitive()) {
                    pair(f.get(one), f.get(other));
                }
            }
        }
    }

    private Object partOf(Object one) {
        return parts.getOrDefault(one, one);
    }

    private void fill(Object from, Object to) throws IllegalAccessException {
        if (from.getClass().isArray()) {
            for (int i = 0; i < Array.getLength(from); i++) {
                Object cell = Array.get(from, i);
                Array.set(to, i, from instanceof Object[] ? partOf(cell) : cell);
            }
            return;
        }
        for (Field f : fields(from)) {
            if (!Modifier.isFinal(f.getModifiers())) {
                f.set(to, f.getType().isPrimitive() ? f.get(from) : partOf(f.get(from)));
            }
        }
    }
}
