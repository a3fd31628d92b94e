import java.lang.reflect.InvocationTargetException;
import java.lang.reflect.Method;
import java.lang.reflect.Modifier;
import java.nio.charset.StandardCharsets;
import java.util.HashMap;
import java.util.Map;

/** Asks calls and tells those whose answer is not the one that is due. */
final class Due {
    private static final Map<String, Method> METHODS = new HashMap<>();

    static {
        for (Method method : WidowRoads.class.getDeclaredMethods()) {
            if (Modifier.isPublic(method.getModifiers())) {
                METHODS.put(method.getName(), method);
            }
        }
    }

    private int asked;
    private int wrong;
    private String about = "";

    /** What the calls from here on are about: a promise, an edge. */
    void about(String what) {
        about = what;
    }

    void is(String what, long got, long want) {
        asked++;
        if (got != want) {
            wrong++;
            System.out.println(about + ": " + what + " answered " + got + ", due is " + want);
        }
    }

    void same(String what, String got, String want) {
        asked++;
        if (!got.equals(want)) {
            wrong++;
            System.out.println(about + ": " + what + " it is " + got + ", due is " + want);
        }
    }

    void fail(String why) {
        wrong++;
        System.out.println(about + ": " + why);
    }

    int asked() {
        return asked;
    }

    /** Calls with what is due, parted by blanks: "at(0,1)=10 steps(0)=3". */
    void all(WidowRoads x, String rows) {
        for (String row : rows.trim().split("\\s+")) {
            int sign = row.lastIndexOf('=');
            is(row.substring(0, sign), answer(x, row.substring(0, sign)), Long.parseLong(row.substring(sign + 1)));
        }
    }

    void finish() {
        System.out.println(asked + " answers asked, " + wrong + " not as due");
        if (wrong != 0 || asked == 0) {
            System.exit(1);
        }
    }

    /** A new object with a colony told as a text. */
    static WidowRoads told(String text) {
        WidowRoads x = new WidowRoads();
        if (tell(x, text) <= 0) {
            throw new IllegalStateException("no colony: " + text + " fault " + x.fault(0) + " at " + x.fault(1));
        }
        return x;
    }

    /** Feeds a text in place of what the tape has, and asks for the colony. */
    static int tell(WidowRoads x, String text) {
        x.end(0);
        put(x, text);
        return x.colony();
    }

    /** Feeds a text behind what the tape has. */
    static void put(WidowRoads x, String text) {
        byte[] bytes = text.getBytes(StandardCharsets.ISO_8859_1);
        int before = x.count(10);
        for (int i = 0; i < bytes.length; i += 20) {
            x.feed(number(bytes, i), number(bytes, i + 4), number(bytes, i + 8), number(bytes, i + 12),
                    number(bytes, i + 16));
        }
        x.end(before + bytes.length);
    }

    static int number(byte[] bytes, int from) {
        int value = 0;
        for (int i = from; i < from + 4; i++) {
            value = value << 8 | (i < bytes.length ? bytes[i] & 255 : 0);
        }
        return value;
    }

    /** What a call answers that is told as a text, such as at(0,1). */
    static long answer(WidowRoads x, String call) {
        int open = call.indexOf('(');
        String name = call.substring(0, open);
        String inner = call.substring(open + 1, call.length() - 1);
        String[] parts = inner.isEmpty() ? new String[0] : inner.split(",");
        Method method = METHODS.get(name);
        if (method != null && method.getParameterCount() == parts.length) {
            return invoke(x, method, parts);
        }
        throw new IllegalArgumentException(call);
    }

    private static long invoke(WidowRoads x, Method method, String[] parts) {
        Object[] arguments = new Object[parts.length];
        for (int i = 0; i < parts.length; i++) {
            if (method.getParameterTypes()[i] == long.class) {
                arguments[i] = Long.valueOf(parts[i]);
            } else {
                arguments[i] = Integer.valueOf(parts[i]);
            }
        }
        try {
            return ((Number) method.invoke(x, arguments)).longValue();
        } catch (IllegalAccessException | InvocationTargetException e) {
            throw new IllegalStateException(method.getName(), e);
        }
    }
}
