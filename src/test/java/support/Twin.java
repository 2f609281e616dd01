import java.lang.reflect.Method;
import java.lang.reflect.Modifier;
import java.util.Arrays;
import java.util.HashMap;
import java.util.Map;

/** An object of the class beside one of the model: each call is made on both. */
final class Twin {
    private static final Map<String, Method> OF_CLASS = byName(RiverTuesdays.class);
    private static final Map<String, Method> OF_MODEL = byName(Model.class);

    private final RiverTuesdays x = new RiverTuesdays();
    private final Model m = new Model();
    private int calls;

    private static Map<String, Method> byName(Class<?> c) {
        Map<String, Method> all = new HashMap<>();
        for (Method method : c.getDeclaredMethods()) {
            if (!Modifier.isPrivate(method.getModifiers())) {
                all.put(method.getName(), method);
            }
        }
        return all;
    }

    /** How many calls the object of the class has had. */
    int calls() {
        return calls;
    }

    /** Makes a call without a look at its answer. */
    void so(String name, int... args) {
        calls++;
        answer(OF_CLASS, x, name, args);
        answer(OF_MODEL, m, name, args);
    }

    /** Makes a call that has to be answered alike, and to be told of alike. */
    void alike(String name, int... args) {
        calls += 3;
        String call = name + Arrays.toString(args);
        Due.is(call, answer(OF_CLASS, x, name, args), answer(OF_MODEL, m, name, args));
        Due.is(call + ", asked()", x.asked(), m.asked());
        Due.is(call + ", finding()", x.finding(), m.finding());
    }

    private static long answer(Map<String, Method> of, Object on, String name, int[] args) {
        Object[] boxed = Arrays.stream(args).boxed().toArray();
        try {
            return ((Number) of.get(name).invoke(on, boxed)).longValue();
        } catch (ReflectiveOperationException e) {
            throw new IllegalStateException(name + Arrays.toString(args), e);
        }
    }
}
