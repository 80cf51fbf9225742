import java.lang.reflect.InvocationTargetException;
import java.lang.reflect.Method;
import java.lang.reflect.Modifier;
import java.util.HashMap;
import java.util.Map;

/** Calls of a MasterTree that are told by a text: the name and the arguments, as in "serve 0 5". */
final class Calls {
    static final String NO_SUCH = "IndexOutOfBoundsException";
    static final String OUT_OF_RANGE = "IllegalArgumentException";
    static final String NOT_TAKEN = "IllegalStateException";

    private static final Map<String, Method> METHODS = new HashMap<>();
    private static final Map<String, Integer> WORDS = Map.ofEntries(
            Map.entry("NONE", MasterTree.NONE), Map.entry("LOST", MasterTree.LOST), Map.entry("ALL", MasterTree.ALL),
            Map.entry("NOTHING", MasterTree.NOTHING), Map.entry("ALLOW", MasterTree.ALLOW),
            Map.entry("DENY", MasterTree.DENY), Map.entry("MIN", Integer.MIN_VALUE),
            Map.entry("MAX", Integer.MAX_VALUE), Map.entry("true", 1), Map.entry("false", 0));

    static {
        for (Method method : MasterTree.class.getDeclaredMethods()) {
            if (Modifier.isPublic(method.getModifiers())) {
                METHODS.put(method.getName(), method);
            }
        }
    }

    private Calls() {
    }

    /** The answer as a number, true being 1 and false 0, or the name of the exception that is thrown. */
    static String answer(MasterTree x, String call) {
        String[] words = call.trim().split(" +");
        Method method = METHODS.get(words[0]);
        if (method == null || method.getParameterCount() != words.length - 1) {
            throw new AssertionError("no such call: " + call);
        }
        Object[] arguments = new Object[words.length - 1];
        for (int i = 0; i < arguments.length; i++) {
            int number = number(words[i + 1]);
            boolean isTruth = method.getParameterTypes()[i] == boolean.class;
            arguments[i] = isTruth ? (Object) (number == 1) : (Object) number;
        }
        try {
            Object answer = method.invoke(x, arguments);
            return answer instanceof Boolean ? (Boolean) answer ? "1" : "0" : answer.toString();
        } catch (InvocationTargetException thrown) {
            return thrown.getCause().getClass().getSimpleName();
        } catch (IllegalAccessException never) {
            throw new AssertionError(never);
        }
    }

    static int number(String word) {
        Integer known = WORDS.get(word);
        return known != null ? known : Integer.parseInt(word);
    }
}
