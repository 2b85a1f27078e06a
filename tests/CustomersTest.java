/** Promises 1 to 5, 8 and 9: a new object, customer, of, set, row, knife, told. */
public final class CustomersTest {
    private static final Checks CHECKS = new Checks("CustomersTest");

    private static void newObject() {
        LittleMore x = new LittleMore();
        for (int what = 0; what <= 5; what++) {
            CHECKS.due("new: count(" + what + ")", x.count(what), 0);
        }
        CHECKS.due("new: told(0)", x.told(0), 2);
        CHECKS.due("new: told(1)", x.told(1), 5);
        CHECKS.due("new: told(2)", x.told(2), 1);
        CHECKS.due("new: told(3)", x.told(3), 0);
        CHECKS.due("new: of(0, 0)", x.of(0, 0), LittleMore.NONE);
        CHECKS.due("new: undo()", x.undo(), LittleMore.STATE);
        CHECKS.due("new: trace(0)", x.trace(0), LittleMore.NONE);
        for (int tape = 0; tape < 6; tape++) {
            CHECKS.due("new: read(" + tape + ", 0)", x.read(tape, 0), LittleMore.NO);
        }
    }

    private static void customer() {
        LittleMore x = new LittleMore();
        CHECKS.due("customer(-1, 0, 10)", x.customer(-1, 0, 10), LittleMore.NONE);
        CHECKS.due("customer(7, 0, 10)", x.customer(7, 0, 10), LittleMore.NONE);
        CHECKS.due("customer(7, 10, 9)", x.customer(7, 10, 9), LittleMore.NONE);
        CHECKS.due("customer(0, -1, 10)", x.customer(0, -1, 10), LittleMore.BAD);
        CHECKS.due("customer(0, 10, 10)", x.customer(0, 10, 10), LittleMore.BAD);
        CHECKS.due("customer(0, 0, 9)", x.customer(0, 0, 9), LittleMore.BAD);
        CHECKS.due("customer(0, 0, 100)", x.customer(0, 0, 100), LittleMore.BAD);
        CHECKS.due("count(0) behind refusals", x.count(0), 0);
        for (int c = 0; c < 6; c++) {
            CHECKS.due("customer " + c, x.customer(c + 1, c % 2 * 9, 10 + c % 2 * 89), c);
            CHECKS.due("count(0) with " + (c + 1), x.count(0), c + 1);
        }
        CHECKS.due("customer, full", x.customer(0, 0, 10), LittleMore.FULL);
        CHECKS.due("customer, full and bad", x.customer(0, 0, 9), LittleMore.BAD);
        CHECKS.due("customer, full and no kind", x.customer(7, 0, 9), LittleMore.NONE);
        CHECKS.due("of(5, 0)", x.of(5, 0), 6);
        CHECKS.due("of(5, 1)", x.of(5, 1), 9);
        CHECKS.due("of(5, 2)", x.of(5, 2), 99);
    }

    private static void ofFirst() {
        LittleMore x = Checks.shop(0, 4, 50);
        int[] first = {0, 4, 50, 3, 0, 0, 0, 0, 5, 50, 4, 1};
        for (int what = 0; what < first.length; what++) {
            CHECKS.due("of(0, " + what + ") at first", x.of(0, what), first[what]);
        }
        CHECKS.due("of(0, -1)", x.of(0, -1), LittleMore.NONE);
        CHECKS.due("of(0, 12)", x.of(0, 12), LittleMore.NONE);
        CHECKS.due("of(1, 0)", x.of(1, 0), LittleMore.NONE);
        CHECKS.due("of(-1, 0)", x.of(-1, 0), LittleMore.NONE);
    }

    /** What of() tells of a kind with v 7, WANTS 41 and this OVER: ASKS, LETS. */
    private static void kind(int kind, int over, int asks, int lets) {
        LittleMore x = Checks.shop(kind, 7, 41);
        x.set(0, 2, over);
        String told = " of kind " + kind + " with OVER " + over;
        CHECKS.due("KIND" + told, x.of(0, 0), kind);
        CHECKS.due("OVER" + told, x.of(0, 4), over);
        CHECKS.due("ASKS" + told, x.of(0, 9), asks);
        CHECKS.due("LETS" + told, x.of(0, 10), lets);
    }

    private static void kinds() {
        kind(0, 0, 41, 7);
        kind(0, 50, 41, 7);
        kind(1, 0, 41, 3);
        kind(1, 39, 2, 3);
        kind(1, 40, 1, 3);
        kind(1, 99, 1, 3);
        kind(2, 20, 41, 14);
        kind(3, 20, 20, 99);
        kind(4, 0, 39, 3);
        kind(4, 1, 38, 2);
        kind(4, 3, 36, 0);
        kind(4, 4, 35, 0);
        kind(4, 37, 2, 0);
        kind(4, 38, 1, 0);
        kind(4, 41, 1, 0);
        kind(5, 20, 41, 14);
        kind(6, 20, 20, 99);
    }

    private static void wouldSayNo() {
        // MORE is 5 at first: v 5 just lets it pass.
        CHECKS.due("of(0, 11) with v 5", Checks.shop(0, 5, 50).of(0, 11), 0);
        CHECKS.due("of(0, 11) with v 4", Checks.shop(0, 4, 50).of(0, 11), 1);
        LittleMore x = Checks.shop(3, 0, 50);
        Checks.counter(x, "more 95 c=0");
        CHECKS.due("MORE of a child", x.of(0, 8), 100);
        CHECKS.due("a child says no to 100", x.of(0, 11), 1);
        x.knife(1);
        CHECKS.due("a child lets 99 pass", x.of(0, 11), 0);
    }

    private static void set() {
        LittleMore x = Checks.shop(1, 4, 50);
        int[][] edges = {{10, 99, 50}, {0, 20, 3}, {0, 99, 0}, {0, 1, 0}};
        int[] told = {2, 3, 4, 7};
        for (int what = 0; what < 4; what++) {
            int least = edges[what][0];
            int most = edges[what][1];
            String call = "set(0, " + what + ", ";
            CHECKS.due(call + "too little)", x.set(0, what, least - 1), LittleMore.BAD);
            CHECKS.due(call + "too much)", x.set(0, what, most + 1), LittleMore.BAD);
            CHECKS.due("not set", x.of(0, told[what]), edges[what][2]);
            CHECKS.due(call + most + ")", x.set(0, what, most), edges[what][2]);
            CHECKS.due("set", x.of(0, told[what]), most);
            CHECKS.due(call + least + ")", x.set(0, what, least), most);
            CHECKS.due("set", x.of(0, told[what]), least);
        }
        CHECKS.due("set(0, 4, 10)", x.set(0, 4, 10), LittleMore.NONE);
        CHECKS.due("set(0, -1, 10)", x.set(0, -1, 10), LittleMore.NONE);
        CHECKS.due("set(1, 0, 10)", x.set(1, 0, 10), LittleMore.NONE);
        CHECKS.due("set(-1, 0, 0)", x.set(-1, 0, 0), LittleMore.NONE);
        x.set(0, 1, 20);
        CHECKS.due("MORE with TRUST 20", x.of(0, 8), 22);
    }

    private static void row() {
        LittleMore x = Checks.shop(6, 1, 21, 3, 1, 20);
        CHECKS.due("row(0, 0, 4)", x.row(0, 0, 4), 0);
        CHECKS.due("row(0, 3, 9)", x.row(0, 3, 9), 0);
        CHECKS.due("row(0, 0, 5)", x.row(0, 0, 5), 4);
        CHECKS.due("row(0, 0, 0)", x.row(0, 0, 0), 5);
        CHECKS.due("row(0, 0, 5) again", x.row(0, 0, 5), 0);
        CHECKS.due("row(0, 0, 10)", x.row(0, 0, 10), LittleMore.BAD);
        CHECKS.due("row(0, 0, -1)", x.row(0, 0, -1), LittleMore.BAD);
        CHECKS.due("row(0, 4, 10)", x.row(0, 4, 10), LittleMore.NONE);
        CHECKS.due("row(0, -1, 1)", x.row(0, -1, 1), LittleMore.NONE);
        CHECKS.due("row(2, 0, 10)", x.row(2, 0, 10), LittleMore.NONE);
        CHECKS.due("row(1, 0, 10)", x.row(1, 0, 10), LittleMore.BAD);
        CHECKS.due("row(1, 0, 1)", x.row(1, 0, 1), LittleMore.STATE);
        int[] asks = {15, 10, 10, 19, 15};
        for (int visit = 0; visit < 5; visit++) {
            CHECKS.due("ASKS of one who is told, visit " + visit, x.of(0, 9), asks[visit]);
            x.visit(0);
        }
    }

    private static void knifeAndTold() {
        LittleMore x = Checks.shop(0, 1, 20, 0, 1, 20, 0, 1, 20);
        CHECKS.due("knife(0)", x.knife(0), 2);
        CHECKS.due("knife(30)", x.knife(30), 0);
        CHECKS.due("knife(31)", x.knife(31), LittleMore.BAD);
        CHECKS.due("knife(-1)", x.knife(-1), LittleMore.BAD);
        CHECKS.due("told(0)", x.told(0), 30);
        CHECKS.due("MORE with 30", x.of(0, 8), 33);
        x.set(0, 3, 1);
        x.set(2, 3, 1);
        CHECKS.due("told(3)", x.told(3), 5);
        Checks.counter(x, "price 12;learn 9;price 00;learn 34");
        CHECKS.due("told(1)", x.told(1), 0);
        CHECKS.due("told(2)", x.told(2), 34);
        CHECKS.due("told(4)", x.told(4), LittleMore.NONE);
        CHECKS.due("told(-1)", x.told(-1), LittleMore.NONE);
    }

    public static void main(String[] args) {
        newObject();
        customer();
        ofFirst();
        kinds();
        wouldSayNo();
        set();
        row();
        knifeAndTold();
        CHECKS.end();
    }
}
