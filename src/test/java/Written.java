import java.lang.reflect.InvocationTargetException;
import java.lang.reflect.Method;

/** Runs calls that a text tells, such as "inject(1, 1, 50)", and reads the answers it tells. */
final class Written {
    private Written() {
    }

    /** Compares what a written call on a finder answers with the written answer. */
    static void due(BurstFinder x, String place, String call, String answer) {
        Check.due(place + ": " + call, valueOf(answer), () -> run(x, call));
    }

    private static Object valueOf(String answer) {
        switch (answer) {
            case "true":
                return true;
            case "false":
                return false;
            case "throws IllegalStateException":
                return Make.STATE;
            case "throws IllegalArgumentException":
                return Make.ARGUMENT;
            case "throws IndexOutOfBoundsException":
                return Make.INDEX;
            default:
                return answer.contains(".")
                        ? (Object) Double.valueOf(answer) : (Object) Long.valueOf(answer);
        }
    }

    private static Object run(BurstFinder x, String call) {
        int open = call.indexOf('(');
        String inside = call.substring(open + 1, call.lastIndexOf(')')).trim();
        String[] words = inside.isEmpty() ? new String[0] : inside.split(", *");
        Method method = methodOf(call.substring(0, open));
        Class<?>[] types = method.getParameterTypes();
        Object[] values = new Object[types.length];
        for (int i = 0; i < types.length; i++) {
            values[i] = argument(words[i], types[i]);
        }
        try {
            return method.invoke(x, values);
        } catch (InvocationTargetException e) {
            throw (RuntimeException) e.getCause();
        } catch (IllegalAccessException e) {
            throw new IllegalStateException(call + " is not public", e);
        }
    }

    private static Method methodOf(String name) {
        for (Method method : BurstFinder.class.getDeclaredMethods()) {
            if (method.getName().equals(name)) {
                return method;
            }
        }
        throw new UnsupportedOperationException("there is no call " + name);
    }

    private static Object argument(String word, Class<?> type) {
        if (type == boolean.class) {
            return Boolean.valueOf(word);
        }
        if (word.length() == 3 && word.startsWith("'")) {
            return (int) word.charAt(1);
        }
        return type == long.class ? (Object) Long.valueOf(word) : (Object) Integer.valueOf(word);
    }
}
