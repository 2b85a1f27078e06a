import java.lang.management.ManagementFactory;
import java.lang.reflect.InvocationTargetException;
import java.lang.reflect.Method;
import java.lang.reflect.Modifier;
import java.util.Arrays;
import java.util.Set;

/** All promises: arguments from far outside, in many states: no call throws, and what is asked changes nothing. */
public final class EdgesTest {
    private static final Checks CHECKS = new Checks("EdgesTest");
    private static final long[] NEAR = {Integer.MIN_VALUE, -5, -1, 0, 1, 5, 6, 40, 100, Integer.MAX_VALUE};
    private static final long[] FEW = {Integer.MIN_VALUE, -1, 0, 3, Integer.MAX_VALUE};
    private static final Set<String> ASKING = Set.of("of", "told", "on", "asked", "dare", "learnt", "nobody", "lost",
        "over", "nearest", "who", "offs", "odds", "mean", "looked", "judge", "trace", "taken", "count", "read");
    private static final String LONGEST = "more 9 c<9|k<9&!t>9;less 3 (o=0|n>4)&d<5;"
        + "more 2 ((((c=1))))|t<9|o<9|n<9|d<9;learn 2;more 1 !!!!c=4";

    private static LittleMore full() {
        LittleMore x = Checks.shop(0, 4, 50, 1, 9, 40, 4, 8, 99, 3, 0, 30, 5, 9, 25, 6, 1, 60);
        CHECKS.due("a long counter", Checks.counter(x, LONGEST), 0);
        for (int k = 0; k < 8; k++) {
            x.book(k % 6);
        }
        x.see(60);
        x.image();
        for (int tape = 0; tape < 5; tape++) {
            x.tape(tape, tape, 9);
            x.item(tape, 1, 3);
        }
        x.act(5, 2, 7);
        Checks.feed(x, "price 3");
        return x;
    }

    private static LittleMore[] states() {
        LittleMore worn = full();
        for (int k = 0; k < 30; k++) {
            worn.saturday();
        }
        worn.set(1, 3, 1);
        LittleMore brimful = full();
        for (int k = 0; k < 5; k++) {
            brimful.counter();
            Checks.feed(brimful, "learn 4");
        }
        Checks.feed(brimful, "x".repeat(100));
        brimful.see(1);
        brimful.see(1);
        brimful.see(1);
        LittleMore undone = full();
        undone.undo();
        return new LittleMore[] {new LittleMore(), full(), worn, brimful, undone, Checks.shop(5, 0, 10)};
    }

    /** All that can be told of a state by calls that are short. */
    private static String state(LittleMore x) {
        StringBuilder s = new StringBuilder();
        for (int c = 0; c < 6; c++) {
            for (int what = 0; what < 12; what++) {
                s.append(x.of(c, what)).append(' ');
            }
            s.append(x.on(c, 5, 0)).append(' ').append(x.offs(c, 0)).append('\n');
        }
        for (int k = 0; k < 20; k++) {
            s.append(x.told(k)).append(' ').append(x.count(k)).append(' ').append(x.trace(k)).append('\n');
        }
        for (int tape = 0; tape < 6; tape++) {
            for (int i = 0; i < 10; i++) {
                s.append(x.read(tape, i)).append(' ');
            }
        }
        return s.append(x.looked()).append(' ').append(x.who()).toString();
    }

    private static void call(LittleMore x, Method m, long[] arguments) throws IllegalAccessException {
        Object[] boxed = new Object[arguments.length];
        for (int k = 0; k < boxed.length; k++) {
            if (m.getParameterTypes()[k] == long.class) {
                boxed[k] = arguments[k];
            } else {
                boxed[k] = (int) arguments[k];
            }
        }
        try {
            m.invoke(x, boxed);
            CHECKS.holds(m.getName() + Arrays.toString(arguments) + " throws nothing", true);
        } catch (InvocationTargetException thrown) {
            CHECKS.holds(m.getName() + Arrays.toString(arguments) + " throws nothing, not " + thrown.getCause(), false);
        }
    }

    private static void all(LittleMore x, Method m) throws IllegalAccessException {
        int many = m.getParameterCount();
        long[] choice = many > 3 ? FEW : NEAR;
        int ways = (int) Math.round(Math.pow(choice.length, many));
        String before = ASKING.contains(m.getName()) ? state(x) : "";
        for (int way = 0; way < ways; way++) {
            long[] arguments = new long[many];
            int rest = way;
            for (int k = 0; k < many; k++) {
                arguments[k] = choice[rest % choice.length];
                rest /= choice.length;
            }
            call(x, m, arguments);
        }
        if (!before.isEmpty()) {
            CHECKS.holds(m.getName() + " changes nothing", before.equals(state(x)));
        }
    }

    private static void refusedChangesNothing() {
        LittleMore x = full();
        String before = state(x);
        x.customer(0, 0, 10);
        x.set(0, 0, 9);
        x.set(0, 4, 10);
        x.row(0, 0, 1);
        x.row(5, 0, 10);
        x.feed(-1);
        x.knife(31);
        x.visit(6);
        x.see(1000);
        x.book(0);
        x.tape(0, 0, -1);
        x.tape(0, 0, 61);
        x.item(0, 9, 1);
        x.shift(0, 0, 1, 0, 1);
        x.shift(0, 0, 0, 1, 9);
        CHECKS.holds("what is refused changes nothing", before.equals(state(x)));
    }

    /** What 512 calls of the dearest kinds take, far below the room that one run has. */
    private static void room() {
        com.sun.management.ThreadMXBean bean = (com.sun.management.ThreadMXBean) ManagementFactory.getThreadMXBean();
        LittleMore warm = full();
        warm.dare(20, 1);
        long thread = Thread.currentThread().getId();
        long before = bean.getThreadAllocatedBytes(thread);
        LittleMore x = full();
        for (int k = 0; k < 60; k++) {
            x.dare(20, 1);
            x.nearest(20);
            x.nobody();
            x.mean(40, 0);
            x.offs(0, 0);
            x.who();
            x.image();
            x.undo();
        }
        long taken = bean.getThreadAllocatedBytes(thread) - before;
        CHECKS.holds("480 calls take " + taken + " bytes", taken < 200_000);
    }

    public static void main(String[] args) throws IllegalAccessException {
        for (Method m : LittleMore.class.getDeclaredMethods()) {
            if (Modifier.isPublic(m.getModifiers())) {
                for (LittleMore x : states()) {
                    all(x, m);
                }
            }
        }
        refusedChangesNothing();
        room();
        CHECKS.end();
    }
}
