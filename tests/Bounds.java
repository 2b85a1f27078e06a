import java.lang.reflect.InvocationTargetException;
import java.lang.reflect.Method;
import java.lang.reflect.Modifier;
import java.util.HashMap;
import java.util.Map;

/**
 * Rows of tests at the bounds that the document names. A row is the sentence it rests on (the promise's number, or T1,
 * T2, T3 for the Terms), the calls ahead, the call that is looked at, and its due answer.
 *
 * Calls are told as text, with ", " between: "customer 0 6 50, visit 0 *3"; *3 makes a call three times; MIN, MAX, LMIN
 * and LMAX are the ends of int and long; "feed:abc" feeds sign by sign, "counter:abc" feeds and then calls counter().
 */
final class Bounds {
    private static final Map<String, Method> FACE = face();

    private final Checks checks;

    Bounds(String test) {
        checks = new Checks(test);
    }

    private static Map<String, Method> face() {
        Map<String, Method> face = new HashMap<>();
        for (Method m : LittleMore.class.getDeclaredMethods()) {
            if (Modifier.isPublic(m.getModifiers())) {
                face.put(m.getName(), m);
            }
        }
        return face;
    }

    /** The call is taken; behind it the calls "call = answer" answer so, one behind the other. */
    void takes(String sentence, String ahead, String call, long due, String... behind) {
        LittleMore x = made(ahead);
        String told = sentence + ": " + ahead + " | " + call;
        checks.due(told, answer(x, call), due);
        for (String next : behind) {
            int at = next.indexOf(" = ");
            told += " | " + next.substring(0, at);
            checks.due(told, answer(x, next.substring(0, at)), number(next.substring(at + 3)));
        }
    }

    /** The call is refused, and changes nothing. */
    void refuses(String sentence, String ahead, String call, long due) {
        changesNothing(sentence, ahead, call, due);
    }

    /** What the call answers is asked, and changes nothing. */
    void asks(String sentence, String ahead, String call, long due) {
        changesNothing(sentence, ahead, call, due);
    }

    private void changesNothing(String sentence, String ahead, String call, long due) {
        LittleMore x = made(ahead);
        String told = sentence + ": " + ahead + " | " + call;
        checks.due(told, answer(x, call), due);
        String unlike = firstUnlike(Probe.look(made(ahead)), Probe.look(x));
        checks.holds(told + " changes nothing" + unlike, unlike.isEmpty());
    }

    private static String firstUnlike(String without, String with) {
        String[] dueLines = without.split("\n");
        String[] lines = with.split("\n");
        for (int k = 0; k < Math.max(dueLines.length, lines.length); k++) {
            String due = k < dueLines.length ? dueLines[k] : "no more";
            String is = k < lines.length ? lines[k] : "no more";
            if (!due.equals(is)) {
                return ", but without it " + due + ", with it " + is;
            }
        }
        return "";
    }

    static LittleMore made(String calls) {
        LittleMore x = new LittleMore();
        if (!calls.isEmpty()) {
            for (String call : calls.split(", ")) {
                answer(x, call);
            }
        }
        return x;
    }

    /** What the call answers, the latest time if it is made several times. */
    static long answer(LittleMore x, String call) {
        if (call.startsWith("feed:")) {
            Checks.feed(x, call.substring(5));
            return x.count(4);
        }
        if (call.startsWith("counter:")) {
            return Checks.counter(x, call.substring(8));
        }
        int star = call.indexOf(" *");
        long times = star < 0 ? 1 : number(call.substring(star + 2));
        String[] parts = (star < 0 ? call : call.substring(0, star)).split(" ");
        Method m = FACE.get(parts[0]);
        Class<?>[] types = m.getParameterTypes();
        if (parts.length != types.length + 1) {
            throw new IllegalArgumentException("not as many arguments: " + call);
        }
        Object[] arguments = new Object[types.length];
        for (int k = 0; k < types.length; k++) {
            long n = number(parts[k + 1]);
            if (types[k] == long.class) {
                arguments[k] = n;
            } else {
                arguments[k] = Math.toIntExact(n);
            }
        }
        long got = 0;
        for (long k = 0; k < times; k++) {
            got = invoke(m, x, arguments);
        }
        return got;
    }

    private static long invoke(Method m, LittleMore x, Object[] arguments) {
        try {
            return ((Number) m.invoke(x, arguments)).longValue();
        } catch (IllegalAccessException | InvocationTargetException thrown) {
            throw new IllegalStateException(m.getName() + " throws", thrown);
        }
    }

    private static long number(String told) {
        switch (told) {
            case "MIN": return Integer.MIN_VALUE;
            case "MAX": return Integer.MAX_VALUE;
            case "LMIN": return Long.MIN_VALUE;
            case "LMAX": return Long.MAX_VALUE;
            default: return Long.parseLong(told);
        }
    }

    void end() {
        checks.end();
    }
}
