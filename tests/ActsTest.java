/** Promises 30 to 33: act, trace, taken, count. */
public final class ActsTest {
    private static final Checks CHECKS = new Checks("ActsTest");

    private static void act(LittleMore x, int customer, int act, int with, int due, int... bodies) {
        String call = "act(" + customer + ", " + act + ", " + with + ")";
        CHECKS.due(call, x.act(customer, act, with), due);
        CHECKS.due("count(5) behind " + call, x.count(5), bodies.length);
        for (int k = 0; k < bodies.length; k++) {
            CHECKS.due("trace(" + k + ") behind " + call, x.trace(k), bodies[k]);
        }
        CHECKS.due("trace beyond " + call, x.trace(bodies.length), LittleMore.NONE);
        CHECKS.due("trace(-1) behind " + call, x.trace(-1), LittleMore.NONE);
    }

    private static void acts() {
        LittleMore x = Checks.shop(0, 4, 50, 1, 3, 50, 2, 1, 50, 3, 2, 50, 4, 6, 50, 5, 1, 50);
        act(x, 0, 0, 5, 5, 10);
        act(x, 0, 1, 5, 1, 11, 10);
        act(x, 0, 2, 5, 2, 12, 11, 10);
        act(x, 1, 0, 5, 6, 10);
        act(x, 1, 1, 5, 5, 20, 11, 10);
        act(x, 1, 2, 5, 10, 12, 20, 11, 10);
        act(x, 2, 0, 5, 17, 30, 10);
        act(x, 2, 1, 5, 16, 11, 30, 10);
        act(x, 2, 2, 5, 32, 12, 11, 30, 10);
        act(x, 3, 0, 5, 8, 10);
        act(x, 3, 1, 5, 6, 11, 10);
        act(x, 3, 2, 5, 14, 40, 12, 11, 10, 11, 10);
        act(x, 4, 0, 5, -9, 50, 10);
        act(x, 4, 1, 5, -10, 51, 20, 11, 50, 10);
        act(x, 4, 2, 5, -20, 12, 51, 20, 11, 50, 10);
        act(x, 5, 0, 5, 20, 30, 10);
        act(x, 5, 1, 5, 19, 11, 30, 10);
        act(x, 5, 2, 5, 8, 60, 12, 11, 30, 10);
        LittleMore told = Checks.shop(6, 3, 50);
        act(told, 0, 0, 5, 6, 71, 10);
        act(told, 0, 1, 5, 5, 70, 11, 71, 10, 10);
        act(told, 0, 2, 5, 11, 40, 12, 70, 11, 71, 10, 10, 70, 11, 71, 10, 10);
    }

    private static void wrapping() {
        LittleMore x = Checks.shop(0, 1, 50, 1, 0, 50, 2, 0, 50);
        act(x, 1, 0, Integer.MAX_VALUE, Integer.MIN_VALUE, 10);
        act(x, 0, 1, Integer.MIN_VALUE, Integer.MAX_VALUE, 11, 10);
        act(x, 0, 2, Integer.MAX_VALUE, -4, 12, 11, 10);
        act(x, 2, 0, Integer.MAX_VALUE, Integer.MAX_VALUE, 30, 10);
    }

    private static void refusals() {
        LittleMore x = Checks.shop(0, 4, 50);
        x.act(0, 2, 5);
        act(x, 1, 0, 5, 0);
        x.act(0, 2, 5);
        act(x, -1, 0, 5, 0);
        x.act(0, 2, 5);
        act(x, 0, 3, 5, 0);
        x.act(0, 2, 5);
        act(x, 0, -1, 5, 0);
        x.set(0, 3, 1);
        act(x, 0, 0, 5, 5, 10);
    }

    private static void taken() {
        LittleMore low = Checks.shop(0, 0, 20, 1, 0, 20, 2, 0, 20, 3, 0, 20, 4, 0, 20, 5, 0, 20);
        LittleMore told = Checks.shop(6, 0, 20);
        boolean[][] under = new boolean[7][7];
        int[][] are = {{0, 0}, {1, 1}, {1, 0}, {2, 2}, {2, 0}, {3, 3}, {3, 0}, {4, 4}, {4, 1}, {4, 0}, {5, 5}, {5, 2},
            {5, 0}, {6, 6}, {6, 3}, {6, 0}};
        for (int[] is : are) {
            under[is[0]][is[1]] = true;
        }
        for (int kind = 0; kind < 7; kind++) {
            LittleMore x = kind == 6 ? told : low;
            int customer = kind == 6 ? 0 : kind;
            for (int k = 0; k < 7; k++) {
                CHECKS.due("kind " + kind + " taken for " + k, x.taken(customer, k), under[kind][k] ? kind : -12);
            }
        }
        CHECKS.due("taken(0, -1)", low.taken(0, -1), LittleMore.BAD);
        CHECKS.due("taken(0, 7)", low.taken(0, 7), LittleMore.BAD);
        CHECKS.due("taken(6, 7)", low.taken(6, 7), LittleMore.BAD);
        CHECKS.due("taken(6, 0)", low.taken(6, 0), -11);
        CHECKS.due("taken(-1, 6)", low.taken(-1, 6), -11);
    }

    private static void count() {
        LittleMore x = Checks.shop(0, 4, 50, 0, 4, 50, 3, 4, 50, 0, 4, 50, 0, 4, 50);
        Checks.counter(x, "price 1");
        Checks.counter(x, "price 2");
        x.see(1);
        x.book(0);
        x.book(0);
        x.book(0);
        Checks.feed(x, "pric");
        x.act(2, 2, 1);
        int[] due = {5, 2, 1, 3, 4, 6};
        for (int what = 0; what < 6; what++) {
            CHECKS.due("count(" + what + ")", x.count(what), due[what]);
        }
        CHECKS.due("count(6)", x.count(6), LittleMore.BAD);
        CHECKS.due("count(-1)", x.count(-1), LittleMore.BAD);
    }

    public static void main(String[] args) {
        acts();
        wrapping();
        refusals();
        taken();
        count();
        CHECKS.end();
    }
}
