/** Promises 10 to 12: visit, saturday, on. */
public final class VisitsTest {
    private static final Checks CHECKS = new Checks("VisitsTest");

    /** Visits of the one customer there is, each with what it pays, TRUST, OVER and NOES behind it. */
    private static void visits(String told, LittleMore x, int[]... due) {
        int before = x.of(0, 6);
        for (int k = 0; k < due.length; k++) {
            String visit = told + ", visit " + k;
            CHECKS.due(visit + " pays", x.visit(0), due[k][0]);
            CHECKS.due(visit + ": TRUST", x.of(0, 3), due[k][1]);
            CHECKS.due(visit + ": OVER", x.of(0, 4), due[k][2]);
            CHECKS.due(visit + ": NOES", x.of(0, 5), due[k][3]);
            CHECKS.due(visit + ": VISITS", x.of(0, 6), before + k + 1);
        }
    }

    private static void byKinds() {
        visits("CUSTOMER", Checks.shop(0, 6, 50),
            new int[] {275, 4, 5, 0}, new int[] {280, 5, 6, 0}, new int[] {265, 3, 3, 1}, new int[] {275, 4, 5, 1});
        visits("STRICT", Checks.shop(1, 9, 40),
            new int[] {210, 1, 2, 1}, new int[] {205, 2, 1, 1}, new int[] {215, 3, 3, 1}, new int[] {195, 1, 0, 2});
        visits("GENTLE", Checks.shop(2, 3, 40),
            new int[] {225, 4, 5, 0}, new int[] {230, 5, 6, 0}, new int[] {215, 3, 3, 1});
        visits("CHILD", Checks.shop(3, 0, 31),
            new int[] {100, 4, 0, 0}, new int[] {105, 5, 0, 0});
        // ASKS 38, MORE 5 above 4: 40, nothing over; MORE 3 within 4: 41, over 1; ASKS 37, MORE 4 above 3: 39.
        visits("COUNTING", Checks.shop(4, 9, 40),
            new int[] {200, 1, 0, 1}, new int[] {205, 2, 1, 1}, new int[] {195, 0, 0, 2});
        visits("LEAVING", Checks.shop(5, 0, 20),
            new int[] {110, 1, 2, 1}, new int[] {105, 0, 1, 2}, new int[] {105, 0, 1, 3});
    }

    private static void going() {
        LittleMore x = Checks.shop(5, 0, 20);
        x.visit(0);
        x.visit(0);
        CHECKS.due("not GONE with two NOES", x.of(0, 7), 0);
        x.visit(0);
        CHECKS.due("GONE with three NOES", x.of(0, 7), 1);
        CHECKS.due("visit(0) of one who is GONE", x.visit(0), LittleMore.STATE);
        CHECKS.due("saturday() with nobody", x.saturday(), 0);
        CHECKS.due("VISITS stay", x.of(0, 6), 3);
        x.set(0, 3, 0);
        x.knife(0);
        CHECKS.due("one who is back and lets it pass", x.visit(0), 100);
        CHECKS.due("is not GONE, whatever its NOES are", x.of(0, 7), 0);
        x.knife(9);
        x.visit(0);
        CHECKS.due("its next no", x.of(0, 7), 1);
        LittleMore gentle = Checks.shop(2, 0, 20);
        for (int k = 0; k < 9; k++) {
            gentle.visit(0);
        }
        CHECKS.due("GENTLE with nine NOES", gentle.of(0, 5), 9);
        CHECKS.due("is not GONE", gentle.of(0, 7), 0);
    }

    private static void bounds() {
        LittleMore x = Checks.shop(0, 0, 50);
        for (int k = 0; k < 98; k++) {
            x.visit(0);
        }
        CHECKS.due("NOES more ahead of the bound", x.on(0, 3, 2), 1);
        x.visit(0);
        CHECKS.due("NOES at the bound", x.of(0, 5), 99);
        x.visit(0);
        CHECKS.due("NOES beyond the bound", x.of(0, 5), 99);
        CHECKS.due("VISITS", x.of(0, 6), 100);
        CHECKS.due("NOES more at the bound", x.on(0, 3, 2), 0);
        LittleMore child = Checks.shop(3, 0, 50);
        Checks.counter(child, "learn 17");
        child.visit(0);
        CHECKS.due("TRUST at the bound", child.of(0, 3), 20);
        Checks.counter(child, "learn 99");
        child.visit(0);
        CHECKS.due("TRUST beyond the bound", child.of(0, 3), 20);
        LittleMore much = Checks.shop(0, 0, 50);
        Checks.counter(much, "more 99 c=0;more 94 c=0");
        much.visit(0);
        CHECKS.due("OVER at the bound", much.of(0, 4), 99);
        much.set(0, 1, 7);
        CHECKS.due("half of 202", much.visit(0), 5 * 151);
        CHECKS.due("OVER beyond the bound", much.of(0, 4), 99);
        LittleMore strict = Checks.shop(1, 0, 10);
        strict.set(0, 2, 99);
        CHECKS.due("asks for 1 at least", strict.visit(0), 15);
        CHECKS.due("OVER is 0 at least", strict.of(0, 4), 0);
    }

    private static void byCounter() {
        LittleMore x = Checks.shop(0, 9, 50);
        Checks.counter(x, "price 7;learn 0;more 2 d=1;less 5 d=2");
        visits("with a counter", x, new int[] {385, 3, 5, 0}, new int[] {399, 3, 7, 0}, new int[] {350, 3, 0, 0});
        Checks.counter(x, "price 0");
        CHECKS.due("for nothing", x.visit(0), 0);
    }

    private static void refusals() {
        LittleMore x = Checks.shop(0, 6, 50);
        CHECKS.due("visit(1)", x.visit(1), LittleMore.NONE);
        CHECKS.due("visit(-1)", x.visit(-1), LittleMore.NONE);
        CHECKS.due("visit(6)", x.visit(6), LittleMore.NONE);
        CHECKS.due("VISITS", x.of(0, 6), 0);
    }

    private static void saturday() {
        LittleMore x = Checks.shop(0, 6, 50, 5, 0, 20, 3, 0, 31);
        CHECKS.due("saturday 1", x.saturday(), 275 + 110 + 100);
        CHECKS.due("saturday 2", x.saturday(), 280 + 105 + 105);
        CHECKS.due("saturday 3", x.saturday(), 265 + 105 + 110);
        CHECKS.due("who is GONE", x.told(3), 2);
        CHECKS.due("saturday 4", x.saturday(), 275 + 115);
        CHECKS.due("VISITS of one who is GONE", x.of(1, 6), 3);
        CHECKS.due("VISITS of one who is not", x.of(2, 6), 4);
    }

    private static void on(LittleMore x, int customer, int n, int... due) {
        for (int what = 0; what < due.length; what++) {
            CHECKS.due("on(" + customer + ", " + n + ", " + what + ")", x.on(customer, n, what), due[what]);
        }
    }

    private static void on() {
        LittleMore x = Checks.shop(0, 6, 50, 5, 0, 20);
        on(x, 0, 0, 0, 0, 0, 3, 0);
        on(x, 0, 1, 55, 275, 0, 4, 5);
        on(x, 0, 3, 164, 820, 1, 3, 3);
        on(x, 1, 3, 64, 320, 3, 0, 1);
        on(x, 1, 40, 64, 320, 3, 0, 1);
        CHECKS.due("VISITS behind what is asked", x.of(0, 6), 0);
        LittleMore told = Checks.shop(6, 0, 20);
        for (int part = 0; part < 4; part++) {
            told.row(0, part, part + 1);
        }
        // 11, 12, 13, 14, 11 and 5, 6, 7, 8, 9 more.
        on(told, 0, 5, 96, 480, 0, 8, 0);
        x.visit(0);
        on(x, 0, 2, 109, 545, 1, 3, 3);
        x.set(1, 3, 1);
        on(x, 1, 9, 0, 0, 0, 3, 0);
        CHECKS.due("on(0, 41, 0)", x.on(0, 41, 0), LittleMore.BAD);
        CHECKS.due("on(0, -1, 0)", x.on(0, -1, 0), LittleMore.BAD);
        CHECKS.due("on(0, 41, 5)", x.on(0, 41, 5), LittleMore.NONE);
        CHECKS.due("on(0, 1, -1)", x.on(0, 1, -1), LittleMore.NONE);
        CHECKS.due("on(2, 41, 0)", x.on(2, 41, 0), LittleMore.NONE);
    }

    public static void main(String[] args) {
        byKinds();
        going();
        bounds();
        byCounter();
        refusals();
        saturday();
        on();
        CHECKS.end();
    }
}
