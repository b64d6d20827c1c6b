import java.lang.reflect.InvocationTargetException;
import java.lang.reflect.Method;
import java.lang.reflect.Modifier;
import java.util.ArrayList;
import java.util.HashMap;
import java.util.List;
import java.util.Map;

/** One call written as a text, as in "holdAt 0 3 2 10"; it can be made on a BoxofficeRow and on a PlainOffice. */
final class Step {
    private static final Map<Class<?>, Map<String, Method>> METHODS = new HashMap<>();
    private static final Map<String, List<Step>> READ = new HashMap<>();

    private final String name;
    private final Object[] numbers;

    private Step(String text) {
        String[] words = text.trim().split(" +");
        name = words[0];
        numbers = new Object[words.length - 1];
        for (int at = 0; at < numbers.length; at++) {
            numbers[at] = Integer.valueOf(words[at + 1]);
        }
    }

    /** Reads calls with semicolons between them. */
    static List<Step> read(String calls) {
        return READ.computeIfAbsent(calls, text -> {
            List<Step> steps = new ArrayList<>();
            for (String call : text.split(";")) {
                if (!call.isBlank()) {
                    steps.add(new Step(call));
                }
            }
            return steps;
        });
    }

    private static Map<String, Method> methodsOf(Class<?> type) {
        return METHODS.computeIfAbsent(type, key -> {
            Map<String, Method> found = new HashMap<>();
            for (Method method : key.getDeclaredMethods()) {
                if (!Modifier.isPrivate(method.getModifiers())) {
                    found.put(method.getName(), method);
                }
            }
            return found;
        });
    }

    /** Returns the answer as a text, or "throws." and the name of the exception. */
    String on(Object office) {
        Method method = methodsOf(office.getClass()).get(name);
        try {
            return String.valueOf(method.invoke(office, numbers));
        } catch (InvocationTargetException e) {
            return "throws." + e.getCause().getClass().getSimpleName();
        } catch (IllegalAccessException e) {
            throw new IllegalStateException(e);
        }
    }
}
