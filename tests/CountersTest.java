/** Promises 6 and 7: feed and counter; what the clauses of a counter do. */
public final class CountersTest {
    private static final Checks CHECKS = new Checks("CountersTest");

    private static void fault(String text, int place) {
        LittleMore x = new LittleMore();
        CHECKS.due("counter() of <" + text + ">", Checks.counter(x, text), -10 - place);
        CHECKS.due("the text behind a fault", x.count(4), 0);
        CHECKS.due("the counters behind a fault", x.count(1), 0);
    }

    private static void good(String text) {
        CHECKS.due("counter() of <" + text + ">", Checks.counter(new LittleMore(), text), 0);
    }

    private static void faults() {
        fault("", 0);
        fault("x", 0);
        fault(" more 1 c=1", 0);
        fault("m", 1);
        fault("mure 1 c=1", 1);
        fault("le", 2);
        fault("lexs 1 c=1", 2);
        fault("leas 1", 3);
        fault("lesn 1", 3);
        fault("learm 1", 4);
        fault("price", 5);
        fault("prices 1", 5);
        fault("price ", 6);
        fault("price  1", 6);
        fault("price a", 6);
        fault("price 123", 8);
        fault("price 1 ", 7);
        fault("price 1 c=1", 7);
        fault("price 1;", 8);
        fault("price 1;;", 8);
        fault("learn 1 c=1", 7);
        fault("more 1", 6);
        fault("more 1;", 6);
        fault("more 1 ", 7);
        fault("more 1  c=1", 7);
        fault("more 123 c=1", 7);
        fault("less 1 q=1", 7);
        fault("less 1 C=1", 7);
        fault("less 1 1=c", 7);
        fault("less 1 c", 8);
        fault("less 1 c!1", 8);
        fault("less 1 c=", 9);
        fault("less 1 c=-1", 9);
        fault("less 1 c==1", 9);
        fault("less 1 c=123", 11);
        fault("less 1 c=12 ", 11);
        fault("less 1 c=1 ", 10);
        fault("less 1 c=1)", 10);
        fault("less 1 c=1|", 11);
        fault("less 1 c=1||c=2", 11);
        fault("less 1 c=1&", 11);
        fault("less 1 c=1&|c=2", 11);
        fault("less 1 c=1!", 10);
        fault("less 1 (c=1", 11);
        fault("less 1 (c=1;", 11);
        fault("less 1 ()", 8);
        fault("less 1 (c=1))", 12);
        fault("less 1 (((((c=1)))))", 11);
        fault("less 1 !!!!!c=1", 11);
        fault("less 1 !(!(!c=1))", 11);
        fault("less 1 ((((!c=1))))", 11);
        fault("less 1 (((c=1)&(((c=2)))))", 17);
        good("less 1 (((c=1)&((c=2))))");
        good("more 99 ((((c<99))))&n=0");
        good("less 1 !!!!c=1|!!!!c=2");
        good("less 1 !(!(c=1))&(c=1|!!!c>2)");
        good("price 07");
        good("learn 0;price 99;more 00 d=6;less 1 k>0");
    }

    private static void clauses() {
        String ten = "price 1;price 2;price 3;price 4;price 5;price 6;price 7;price 8;price 9;price 0";
        LittleMore x = new LittleMore();
        CHECKS.due("ten clauses", Checks.counter(x, ten), 0);
        CHECKS.due("the last price", x.told(1), 0);
        fault(ten + ";", 79);
        fault(ten + ";price 1", 79);
        fault(ten + "1;", 80);
    }

    private static void feed() {
        LittleMore x = new LittleMore();
        CHECKS.due("feed(-1)", x.feed(-1), LittleMore.BAD);
        CHECKS.due("feed(128)", x.feed(128), LittleMore.BAD);
        for (int k = 1; k <= 100; k++) {
            CHECKS.due("feed", x.feed(k == 1 ? 0 : 127), k);
        }
        CHECKS.due("feed, full", x.feed(65), LittleMore.FULL);
        CHECKS.due("feed, full and bad", x.feed(128), LittleMore.BAD);
        CHECKS.due("count(4)", x.count(4), 100);
        CHECKS.due("counter() of a wrong sign", x.counter(), -10);
        CHECKS.due("feed again", x.feed(65), 1);
        String long95 = "less 1 c=1" + "|c=12".repeat(17);
        fault(long95 + "|c=1|", 100);
        fault(long95 + "|c=1;", 100);
        fault(long95 + "|c=1)", 99);
        good(long95 + "|c=12");
    }

    private static void full() {
        LittleMore x = new LittleMore();
        for (int k = 0; k < 6; k++) {
            CHECKS.due("counter " + k, Checks.counter(x, "price " + k), k);
            CHECKS.due("counter " + k + " holds", x.told(1), k);
            CHECKS.due("none of a fault", Checks.counter(x, "price 9;"), k < 5 ? -18 : LittleMore.FULL);
            CHECKS.due("counter " + k + " holds still", x.told(1), k);
        }
        CHECKS.due("LEARN without", x.told(2), 1);
        CHECKS.due("the text stays when it is full", x.count(4), 8);
        CHECKS.due("count(1)", x.count(1), 6);
        CHECKS.due("counter(), full", x.counter(), LittleMore.FULL);
    }

    private static void without() {
        LittleMore x = Checks.shop(0, 9, 50);
        Checks.counter(x, "price 7;learn 4;more 3 c=0");
        CHECKS.due("PRICE", x.told(1), 7);
        CHECKS.due("LEARN", x.told(2), 4);
        CHECKS.due("MORE", x.of(0, 8), 8);
        Checks.counter(x, "price 8;learn 5;");
        CHECKS.due("PRICE behind a fault", x.told(1), 7);
        Checks.counter(x, "less 1 c=0");
        CHECKS.due("PRICE without", x.told(1), 5);
        CHECKS.due("LEARN without", x.told(2), 1);
        CHECKS.due("MORE by the newest alone", x.of(0, 8), 4);
    }

    /** MORE of customer 1 of kind 5 with TRUST 4, OVER 30, NOES 1, VISITS 8, OFF 2, by this counter. */
    private static void more(String text, int due) {
        LittleMore x = Checks.shop(0, 9, 50, 5, 9, 50);
        x.set(1, 1, 20);
        x.visit(1);
        for (int k = 0; k < 7; k++) {
            x.set(1, 1, 0);
            x.visit(1);
        }
        x.set(1, 1, 4);
        x.set(1, 2, 30);
        CHECKS.due("NOES", x.of(1, 5), 1);
        CHECKS.due("VISITS", x.of(1, 6), 8);
        CHECKS.due("counter() of " + text, Checks.counter(x, text), 0);
        CHECKS.due("MORE by " + text, x.of(1, 8), due);
    }

    private static void tests() {
        more("price 1", 6);
        more("more 7 c=1", 13);
        more("more 7 c=0", 6);
        more("more 7 c>1", 6);
        more("more 7 c>0", 13);
        more("more 7 c<1", 6);
        more("more 7 c<2", 13);
        more("more 7 k=5", 13);
        more("more 7 k=2", 6);
        more("more 7 t=4", 13);
        more("more 7 t=04", 13);
        more("more 7 o=30", 13);
        more("more 7 o>29", 13);
        more("more 7 o=3", 6);
        more("more 7 n=1", 13);
        more("more 7 d=1", 13);
        more("more 7 d=8", 6);
    }

    private static void expressions() {
        // c=1 and t=4 hold, c=0 and t=5 do not.
        more("more 7 !c=1", 6);
        more("more 7 !c=0", 13);
        more("more 7 !!c=1", 13);
        more("more 7 c=1|t=5", 13);
        more("more 7 c=0|t=4", 13);
        more("more 7 c=0|t=5", 6);
        more("more 7 c=1&t=5", 6);
        more("more 7 c=0&t=4", 6);
        more("more 7 c=1&t=4", 13);
        more("more 7 c=1|t=5&c=0", 13);
        more("more 7 (c=1|t=5)&c=0", 6);
        more("more 7 c=0&t=5|t=4", 13);
        more("more 7 c=0&(t=5|t=4)", 6);
        more("more 7 !c=0&t=5", 6);
        more("more 7 !(c=0&t=5)", 13);
        more("more 7 !c=1|t=4", 13);
        more("more 7 !(c=1|t=4)", 6);
        more("more 7 c=0|c=0|c=0|c=1", 13);
        more("more 7 c=1&c=1&c=1&c=0", 6);
        more("more 7 ((c=0|((t=4&c=1))&c=0)|t=4&n=1)", 13);
    }

    private static void sums() {
        more("more 7 c=1;more 99 t=4", 112);
        more("less 4 c=1", 2);
        more("less 6 c=1", 0);
        more("less 7 c=1", 0);
        more("less 4 c=0", 6);
        more("less 99 c=1;more 99 c=1", 6);
        more("less 9 c=1;more 7 c=1;learn 3;more 2 c=0", 4);
        more("more 0 c=1", 6);
    }

    public static void main(String[] args) {
        faults();
        clauses();
        feed();
        full();
        without();
        tests();
        expressions();
        sums();
        CHECKS.end();
    }
}
