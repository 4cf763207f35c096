import java.lang.reflect.InvocationTargetException;
import java.lang.reflect.Method;
import java.util.ArrayList;
import java.util.Arrays;
import java.util.HashMap;
import java.util.List;
import java.util.Map;

/**
 * A call as a script tells it. A script has calls one by one, parted by ';' or the end of a line:
 * <pre>
 *   coil(9) 0            a call and the answer that is due: a number, the name of a constant, FAULT and a place
 *   run(60)              a call whose answer is not looked at
 *   20 * watch(0, 0, 5)  the same call so many times; with 0.. as due, each answer is one more
 *   'rate s*80' 0        a law: fed, trimmed, and text(), whose answer is due; \x09 is the byte 9
 * </pre>
 */
record Call(String name, int[] values, Integer due) {
    private static final Map<String, Method> METHODS = new HashMap<>();

    static {
        for (Method m : FluxWatch.class.getDeclaredMethods()) {
            METHODS.put(m.getName(), m);
        }
    }

    int on(FluxWatch x) {
        Method m = METHODS.get(name);
        if (m == null || m.getParameterCount() != values.length) {
            throw new IllegalArgumentException("there is no call " + this);
        }
        Object[] boxed = new Object[values.length];
        for (int i = 0; i < values.length; i++) {
            boxed[i] = values[i];
        }
        try {
            return (int) m.invoke(x, boxed);
        } catch (InvocationTargetException e) {
            throw new IllegalStateException(this + " threw " + e.getCause(), e);
        } catch (IllegalAccessException e) {
            throw new IllegalStateException(e);
        }
    }

    @Override
    public String toString() {
        String told = Arrays.toString(values);
        return name + "(" + told.substring(1, told.length() - 1) + ")";
    }

    static List<Call> script(String script) {
        List<Call> calls = new ArrayList<>();
        for (String part : script.split("[;\n]")) {
            if (!part.isBlank()) {
                addPart(calls, part.strip());
            }
        }
        return calls;
    }

    private static void addPart(List<Call> calls, String part) {
        if (part.charAt(0) == '\'') {
            int end = part.lastIndexOf('\'');
            addLaw(calls, bytes(part.substring(1, end)), due(part.substring(end + 1).strip(), 0));
            return;
        }
        int many = 1;
        String call = part;
        int star = part.indexOf('*');
        if (star > 0) {
            many = Integer.parseInt(part.substring(0, star).strip());
            call = part.substring(star + 1).strip();
        }
        int open = call.indexOf('(');
        int close = call.lastIndexOf(')');
        for (int i = 0; i < many; i++) {
            calls.add(new Call(call.substring(0, open), values(call.substring(open + 1, close)), due(call.substring(close + 1).strip(), i)));
        }
    }

    private static void addLaw(List<Call> calls, String text, Integer due) {
        for (int at = 0; at < text.length(); at += 12) {
            int[] fed = new int[3];
            for (int i = 0; i < 12; i++) {
                int sign = at + i < text.length() ? text.charAt(at + i) : ' ';
                fed[i / 4] = fed[i / 4] << 8 | sign;
            }
            calls.add(new Call("feed", fed, null));
        }
        calls.add(new Call("trim", new int[] {text.length()}, text.length()));
        calls.add(new Call("text", new int[0], due));
    }

    private static String bytes(String told) {
        StringBuilder text = new StringBuilder();
        for (int i = 0; i < told.length(); i++) {
            if (told.startsWith("\\x", i)) {
                text.append((char) Integer.parseInt(told.substring(i + 2, i + 4), 16));
                i += 3;
            } else {
                text.append(told.charAt(i));
            }
        }
        return text.toString();
    }

    private static int[] values(String told) {
        if (told.isBlank()) {
            return new int[0];
        }
        String[] parts = told.split(",");
        int[] values = new int[parts.length];
        for (int i = 0; i < parts.length; i++) {
            values[i] = number(parts[i].strip());
        }
        return values;
    }

    private static Integer due(String told, int ahead) {
        if (told.isEmpty()) {
            return null;
        }
        if (told.startsWith("FAULT ")) {
            return -100 - Integer.parseInt(told.substring(6).strip());
        }
        return told.endsWith("..") ? number(told.substring(0, told.length() - 2)) + ahead : number(told);
    }

    private static int number(String told) {
        return switch (told) {
            case "BAD" -> -1000000001;
            case "NO" -> -1000000002;
            case "FULL" -> -1000000003;
            case "NONE" -> -1000000005;
            case "NOTHING" -> -1000000011;
            case "KIND" -> -1000000012;
            case "INDEX" -> -1000000013;
            case "SIZE" -> -1000000014;
            case "MAX" -> Integer.MAX_VALUE;
            case "MIN" -> Integer.MIN_VALUE;
            default -> told.startsWith("0x") ? Integer.parseUnsignedInt(told.substring(2), 16) : Integer.parseInt(told);
        };
    }
}
