import java.lang.reflect.InvocationTargetException;
import java.lang.reflect.Method;
import java.util.ArrayList;
import java.util.HashMap;
import java.util.List;
import java.util.Map;
import java.util.Random;

/** All promises: long runs of calls with drawn arguments on LittleMore and on Model, which must answer alike. */
public final class ModelTest {
    private static final int RUNS = 600, CALLS = 512;
    private static final int[] FAR = {Integer.MIN_VALUE, Integer.MIN_VALUE + 1, -1000, -3, -2, 101, 1000,
        Integer.MAX_VALUE - 1, Integer.MAX_VALUE};

    private final Checks checks = new Checks("ModelTest");
    private final Map<String, Method> ours = new HashMap<>();
    private final Map<String, Method> models = new HashMap<>();
    private final List<String> names = new ArrayList<>();
    private Random random;
    private String waiting = "";

    private ModelTest() {
        for (Method m : LittleMore.class.getDeclaredMethods()) {
            if (java.lang.reflect.Modifier.isPublic(m.getModifiers())) {
                ours.put(m.getName(), m);
                names.add(m.getName());
            }
        }
        for (Method m : Model.class.getDeclaredMethods()) {
            if (java.lang.reflect.Modifier.isPublic(m.getModifiers())) {
                models.put(m.getName(), m);
            }
        }
        names.sort(null);
    }

    private int in(int from, int to) {
        return from + random.nextInt(to - from + 1);
    }

    private int argument(String call, int place) {
        if (random.nextInt(25) == 0) {
            return FAR[random.nextInt(FAR.length)];
        }
        int edge = random.nextInt(8) == 0 ? 1 : 0;
        switch (call + place) {
            case "customer0": return in(-edge, 6 + edge);
            case "customer1": return in(-edge, 9 + edge);
            case "customer2": return in(10 - edge, 99 + edge);
            case "set1": return in(-edge, 3 + edge);
            case "set2": return random.nextInt(3) == 0 ? in(-1, 2) : in(-edge, random.nextBoolean() ? 21 : 100);
            case "row1": return in(-edge, 3 + edge);
            case "row2": return in(-edge, 9 + edge);
            case "of1": return in(-edge, 11 + edge);
            case "knife0": return in(-edge, random.nextBoolean() ? 30 + edge : 5);
            case "told0": return in(-edge, 3 + edge);
            case "on1": case "lost0": return random.nextBoolean() ? in(0, 4) : in(-edge, 40 + edge);
            case "on2": return in(-edge, 4 + edge);
            case "dare0": case "nearest0": return in(1 - edge, 20 + edge);
            case "learnt1": return random.nextBoolean() ? in(0, 9) : in(-edge, 99 + edge);
            case "over1": return in(1 - edge, 99 + edge);
            case "over2": case "mean0": return in(1 - edge, 40 + edge);
            case "odds0": return in(-edge, 40 + edge);
            case "asked1": case "dare1": case "offs1": case "odds1": case "mean1": return in(-edge, 1 + edge);
            case "book0": return random.nextInt(12) == 0 ? -1 : in(0, 5 + edge);
            case "judge1": return in(-edge, 5 + edge);
            case "act1": return in(-edge, 2 + edge);
            case "act2": return random.nextBoolean() ? random.nextInt() : in(-9, 9);
            case "trace0": return in(-edge, 13 + edge);
            case "taken1": return in(-edge, 6 + edge);
            case "count0": return in(-edge, 5 + edge);
            case "tape1": return in(random.nextInt(4) == 0 ? -1 - edge : 0, random.nextBoolean() ? 0 : 4 + edge);
            case "tape2": return random.nextInt(10) == 0 ? in(-1, 61) : in(0, 9);
            case "item1": case "read1": case "shift1": case "shift3": return in(-edge, 8 + edge);
            case "shift4": return in(-edge, 4 + edge);
            default: return in(-edge, 5 + edge);
        }
    }

    // ---- texts

    private String number() {
        return random.nextInt(4) == 0 ? "" + in(0, 9) + in(0, 9) : "" + in(0, 9);
    }

    private String test() {
        return "cktond".charAt(random.nextInt(6)) + "" + "<=>".charAt(random.nextInt(3)) + number();
    }

    private String expression(int depth) {
        int way = random.nextInt(8);
        if (depth > 4 || way < 4) {
            return test();
        }
        if (way == 4) {
            return "!" + expression(depth + 1);
        }
        if (way == 5) {
            return "(" + expression(depth + 1) + ")";
        }
        return expression(depth) + (way == 6 ? "|" : "&") + expression(depth + 1);
    }

    private String text() {
        StringBuilder s = new StringBuilder();
        int clauses = random.nextInt(10) == 0 ? in(9, 12) : in(1, 4);
        for (int k = 0; k < clauses; k++) {
            s.append(k == 0 ? "" : ";");
            switch (random.nextInt(clauses > 8 ? 2 : 5)) {
                case 0: s.append("price ").append(number()); break;
                case 1: s.append("learn ").append(number()); break;
                case 2: s.append("less ").append(number()).append(' ').append(expression(0)); break;
                default: s.append("more ").append(number()).append(' ').append(expression(0)); break;
            }
        }
        if (random.nextInt(3) == 0) {
            spoil(s);
        }
        return s.length() > 100 ? s.substring(0, 100) : s.toString();
    }

    private void spoil(StringBuilder s) {
        int at = random.nextInt(s.length());
        char sign = "morelsp ricn0123456789cktond<=>!()&|;x\0~".charAt(random.nextInt(39));
        switch (random.nextInt(4)) {
            case 0: s.setCharAt(at, sign); break;
            case 1: s.insert(at, sign); break;
            case 2: s.deleteCharAt(at); break;
            default: s.setLength(at); break;
        }
    }

    private void lookAtFaults() {
        random = new Random(7);
        for (int k = 0; k < 10000; k++) {
            String text = text();
            LittleMore x = new LittleMore();
            Checks.feed(x, text);
            int fault = Model.fault(text);
            checks.due("counter() of " + text, x.counter(), fault < 0 ? 0 : -10 - fault);
        }
    }

    // ---- runs

    private long answer(Map<String, Method> methods, Object on, String call, Object[] arguments) throws Exception {
        try {
            return ((Number) methods.get(call).invoke(on, arguments)).longValue();
        } catch (InvocationTargetException thrown) {
            System.out.println("ModelTest: " + call + java.util.Arrays.toString(arguments) + " throws");
            thrown.getCause().printStackTrace(System.out);
            checks.holds(call + " throws nothing", false);
            checks.end();
            throw thrown;
        }
    }

    private String nextCall() {
        int draw = random.nextInt(100);
        if (!waiting.isEmpty()) {
            return draw < 97 ? "feed" : names.get(random.nextInt(names.size()));
        }
        if (draw == 0) {
            waiting = text();
        }
        return draw < 8 ? "customer" : draw < 14 ? "saturday" : draw < 22 ? "visit" : draw < 24 ? "undo"
            : names.get(random.nextInt(names.size()));
    }

    private Object[] arguments(LittleMore x, String call) {
        Class<?>[] types = ours.get(call).getParameterTypes();
        Object[] arguments = new Object[types.length];
        for (int place = 0; place < types.length; place++) {
            if (types[place] == long.class) {
                arguments[place] = random.nextBoolean() ? random.nextLong() : (long) in(0, 20);
            } else {
                arguments[place] = argument(call, place);
            }
        }
        if (call.equals("feed") && !waiting.isEmpty()) {
            arguments[0] = (int) waiting.charAt(0);
            waiting = waiting.substring(1);
        }
        if (call.equals("see") && x.count(0) > 0 && random.nextInt(10) > 0) {
            // A cut that can be: what some customer would get now, or behind a visit.
            int c = in(0, x.count(0) - 1);
            arguments[0] = random.nextInt(8) == 0 ? -1 : x.of(c, 8) + x.of(c, 9) + in(-1, 1);
        }
        return arguments;
    }

    private void lookAtAll(LittleMore x, Model m, int run) {
        for (int c = 0; c < 6; c++) {
            for (int what = 0; what < 12; what++) {
                checks.due("run " + run + ", at the end: of(" + c + ", " + what + ")", x.of(c, what), m.of(c, what));
            }
        }
        for (int what = 0; what < 6; what++) {
            checks.due("run " + run + ", at the end: told(" + what + ")", x.told(what), m.told(what));
            checks.due("run " + run + ", at the end: count(" + what + ")", x.count(what), m.count(what));
        }
    }

    private void lookAtRun(int run) throws Exception {
        random = new Random(run);
        waiting = random.nextBoolean() ? text() : "";
        LittleMore x = new LittleMore();
        Model m = new Model();
        for (int k = 0; k < CALLS; k++) {
            String call = nextCall();
            Object[] arguments = arguments(x, call);
            if (waiting.isEmpty() && call.equals("feed") && m.count(4) > 0 && random.nextInt(9) > 0) {
                call = "counter";
                arguments = new Object[0];
            }
            long want = answer(models, m, call, arguments);
            checks.due("run " + run + ", call " + k + ": " + call + java.util.Arrays.toString(arguments),
                answer(ours, x, call, arguments), want);
        }
        lookAtAll(x, m, run);
    }

    public static void main(String[] args) throws Exception {
        ModelTest test = new ModelTest();
        test.lookAtFaults();
        for (int run = 0; run < RUNS; run++) {
            test.lookAtRun(run);
        }
        test.checks.end();
    }
}
