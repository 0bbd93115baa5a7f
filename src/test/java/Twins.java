import java.lang.reflect.InvocationTargetException;
import java.lang.reflect.Method;
import java.lang.reflect.Modifier;
import java.nio.ByteBuffer;
import java.util.Map;
import java.util.TreeMap;

/** A BusLifts and a PlainLifts that get the same calls; their answers, exceptions too, must be the same. */
final class Twins {
    static final Map<String, Method> REAL = publicMethods(BusLifts.class);
    private static final Map<String, Method> PLAIN = publicMethods(PlainLifts.class);

    final BusLifts lifts = new BusLifts();
    private final PlainLifts plain = new PlainLifts();
    private final Due due;

    Twins(Due due) {
        this.due = due;
    }

    private static Map<String, Method> publicMethods(Class<?> type) {
        Map<String, Method> found = new TreeMap<>();
        for (Method method : type.getDeclaredMethods()) {
            if (Modifier.isPublic(method.getModifiers())) {
                found.put(method.getName(), method);
            }
        }
        return found;
    }

    /** The answer, or the class of the exception, in a text. */
    static String answer(Object asked, Map<String, Method> methods, String name, Object[] values) {
        try {
            return String.valueOf(methods.get(name).invoke(asked, values));
        } catch (InvocationTargetException thrown) {
            return "throws " + thrown.getCause().getClass().getName();
        } catch (IllegalAccessException never) {
            throw new AssertionError(never);
        }
    }

    /** The answer of BusLifts. */
    String compare(String what, String method, Object... values) {
        String answer = answer(lifts, REAL, method, values);
        due.isText(what, answer, answer(plain, PLAIN, method, values));
        return answer;
    }

    /** Appends a text to both input buffers, and cuts off the zeros behind it. */
    void feed(String text) {
        byte[] bytes = new byte[(text.length() + 19) / 20 * 20];
        for (int index = 0; index < text.length(); index++) {
            bytes[index] = (byte) text.charAt(index);
        }
        ByteBuffer words = ByteBuffer.wrap(bytes);
        while (words.hasRemaining()) {
            Object[] five = new Object[5];
            for (int word = 0; word < 5; word++) {
                five[word] = words.getInt();
            }
            compare("appendInput", "appendInput", five);
        }
        compare("truncateInput", "truncateInput", Math.min(text.length(), 700));
    }
}
