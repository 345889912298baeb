import java.lang.reflect.Method;
import java.lang.reflect.Modifier;
import java.util.Arrays;
import java.util.HashMap;
import java.util.Map;

/** An object of the class and one of the plain telling of the document: each call goes to both. */
final class Pair {
    /** Nothing is promised behind so many calls of one object. */
    static final int MOST_CALLS = 512;
    private static final Map<String, Method> OF_CLASS = methodsOf(JudgesLists.class);
    private static final Map<String, Method> OF_PLAIN = methodsOf(PlainJudges.class);

    private final Checks checks;
    private final JudgesLists x = new JudgesLists();
    /** What a test wants to know of the state it asks here, which is no call of the class. */
    final PlainJudges plain = new PlainJudges();
    private final StringBuilder story = new StringBuilder();
    private int calls;

    Pair(Checks checks) {
        this.checks = checks;
    }

    int callsLeft() {
        return MOST_CALLS - calls;
    }

    String story() {
        return story.toString();
    }

    void call(String name, int... numbers) {
        calls++;
        String told = name + Arrays.toString(numbers);
        story.append(told).append('\n');
        checks.due(told, answer(OF_CLASS, x, name, numbers), answer(OF_PLAIN, plain, name, numbers));
    }

    private static int answer(Map<String, Method> methods, Object object, String name, int[] numbers) {
        try {
            return (Integer) methods.get(name).invoke(object, Arrays.stream(numbers).boxed().toArray());
        } catch (ReflectiveOperationException e) {
            throw new IllegalStateException(name + Arrays.toString(numbers), e);
        }
    }

    private static Map<String, Method> methodsOf(Class<?> type) {
        Map<String, Method> methods = new HashMap<>();
        for (Method method : type.getDeclaredMethods()) {
            if (!Modifier.isPrivate(method.getModifiers()) && !method.isSynthetic()) {
                methods.put(method.getName(), method);
            }
        }
        return methods;
    }
}
