/** The bounds of promises 6 and 7, and of COUNTERS in the Terms. */
public final class BoundsOfCountersTest {
    private static final Bounds B = new Bounds("BoundsOfCountersTest");
    private static final Checks CHECKS = new Checks("BoundsOfCountersTest, signs");
    private static final int BAD = -2, FULL = -4;
    private static final String SIX_COUNTERS = "counter:price 0, counter:price 1, counter:price 2, counter:price 3, "
        + "counter:price 4, counter:price 6";
    private static final String DIGITS = "0123456789", FACTOR = "cktond!(", LETTERS = "cktond";

    private static void feed() {
        B.takes("6 sign: the least", "", "feed 0", 1, "count 4 = 1");
        B.takes("6 sign: the largest", "", "feed 127", 1, "count 4 = 1");
        B.refuses("6 sign: too small", "feed:price ", "feed -1", BAD);
        B.refuses("6 sign: too large", "feed:price ", "feed 128", BAD);
        B.refuses("6 sign: far too small", "feed:price ", "feed MIN", BAD);
        B.refuses("6 sign: far too large", "feed:price ", "feed MAX", BAD);
        B.takes("6 behind THE TEXT's", "feed:price ", "feed 56", 7, "count 4 = 7", "counter = 0", "told 1 = 8");
        B.takes("T1 100 at most: the hundredth", "feed 65 *99", "feed 65", 100, "count 4 = 100");
        B.refuses("6 FULL: one more", "feed 65 *100", "feed 65", FULL);
        B.refuses("6 BAD ahead of FULL: too large", "feed 65 *100", "feed 128", BAD);
        B.refuses("6 BAD ahead of FULL: too small", "feed 65 *100", "feed -1", BAD);
        B.takes("6 what is refused does not come to THE TEXT", "feed:price 7, feed -1, feed 128", "counter", 0,
            "told 1 = 7");
    }

    private static void fullText() {
        String long95 = "less 1 c=1" + "|c=12".repeat(17);
        good("T1 100 bytes", long95 + "|c=12");
        B.takes("6 FULL, and THE TEXT stays as it was", "feed:" + long95 + "|c=12, feed 59", "counter", 0);
        fault("7 FAULT: the end of 100 bytes", long95 + "|c=1|", 100);
        fault("7 FAULT: the end of 100 bytes, a clause that is none yet", long95 + "|c=1;", 100);
        fault("7 FAULT: the end of 100 bytes, a number that is none yet", long95 + "|o>9&", 100);
        fault("7 FAULT: the hundredth byte", long95 + "|c=1)", 99);
    }

    private static void fault(String sentence, String text, int place) {
        B.takes(sentence + " <" + text + ">", "counter:price 9", "counter:" + text, -10 - place, "count 4 = 0",
            "count 1 = 1", "told 1 = 9");
    }

    private static void good(String sentence, String text) {
        B.takes(sentence + " <" + text + ">", "counter:price 9", "counter:" + text, 1, "count 4 = 0", "count 1 = 2");
    }

    private static void sixCounters() {
        B.takes("7 its number: the first", "feed:price 7", "counter", 0, "count 4 = 0", "count 1 = 1", "told 1 = 7");
        B.takes("7 the sixth", SIX_COUNTERS.substring(0, SIX_COUNTERS.lastIndexOf(',')), "counter:price 7", 5,
            "count 1 = 6", "told 1 = 7");
        B.refuses("7 FULL: the seventh, THE TEXT stays", SIX_COUNTERS + ", feed:price 7", "counter", FULL);
        B.refuses("7 FULL ahead of the FAULT", SIX_COUNTERS + ", feed:price 7;;", "counter", FULL);
        B.refuses("7 FULL with THE TEXT empty", SIX_COUNTERS, "counter", FULL);
        B.takes("7 what has a FAULT is no COUNTER", "counter:x, counter:x, counter:x, counter:x, counter:x, counter:x",
            "counter:price 7", 0);
        B.takes("T1 the newest COUNTER holds", "counter:price 7;learn 3;more 9 c=0, customer 0 6 50",
            "counter:more 1 c=0", 1, "told 1 = 5", "told 2 = 1", "of 0 8 = 6");
        B.takes("7 the one that held holds", "counter:price 7;learn 3;more 9 c=0, customer 0 6 50",
            "counter:price 8;learn 4;more 1 c=x", -10 - 25, "told 1 = 7", "told 2 = 3", "of 0 8 = 14");
        B.takes("7 none held, and none holds", "customer 0 6 50", "counter:price 8;learn 4;more 1 c=x", -10 - 25,
            "told 1 = 5", "told 2 = 1", "of 0 8 = 5");
        B.takes("7 THE TEXT is empty then, of a FAULT too", "feed:price 7;, counter", "feed:price 8", 7,
            "counter = 0", "told 1 = 8");
    }

    private static void clauses() {
        String nine = "price 1;price 2;price 3;price 4;price 5;price 6;price 7;price 8;price 9";
        fault("T1 CLAUSES: none", "", 0);
        good("T1 CLAUSES: one", "price 1");
        good("T1 CLAUSES: nine", nine);
        good("T1 CLAUSES: ten", nine + ";learn 1");
        fault("T1 CLAUSES: an eleventh", nine + ";learn 1;learn 2", 79);
        fault("T1 CLAUSES: a ; behind the tenth", nine + ";learn 1;", 79);
        fault("T1 CLAUSES: a ; ahead of the first", ";price 1", 0);
        fault("T1 CLAUSES: a ; too many between", "price 1;;price 2", 8);
        fault("T1 CLAUSES: a ; behind the last", "price 1;", 8);
        fault("T1 CLAUSES: a blank between", "price 1; price 2", 8);
        // The tenth clause may be of each sort, and goes on as it does elsewhere.
        next(nine + ";more 1 c=1", DIGITS + "|&");
        next(nine + ";price 1", DIGITS);
        next(nine + ";price 12", "");
        next(nine, DIGITS + ";");
    }

    private static void words() {
        next("", "mlp");
        next("m", "o");
        next("mo", "r");
        next("mor", "e");
        next("l", "e");
        next("le", "sa");
        next("les", "s");
        next("lea", "r");
        next("lear", "n");
        next("p", "r");
        next("pr", "i");
        next("pri", "c");
        next("pric", "e");
        next("price 1;", "mlp");
        next("price 1;l", "e");
    }

    private static void blanksAndNumbers() {
        for (String word : new String[] {"more", "less"}) {
            next(word, " ");
            next(word + " ", DIGITS);
            next(word + " 1", DIGITS + " ");
            next(word + " 12", " ");
            next(word + " 1 ", FACTOR);
            next(word + " 12 ", FACTOR);
        }
        for (String word : new String[] {"price", "learn"}) {
            next(word, " ");
            next(word + " ", DIGITS);
            next(word + " 1", DIGITS + ";");
            next(word + " 12", ";");
        }
    }

    private static void expressions() {
        for (char letter : LETTERS.toCharArray()) {
            next("more 1 " + letter, "<=>");
        }
        for (char comparison : "<=>".toCharArray()) {
            next("more 1 c" + comparison, DIGITS);
            next("more 1 c" + comparison + "0", DIGITS + "|&;");
            next("more 1 c" + comparison + "00", "|&;");
        }
        next("more 1 c=1|", FACTOR);
        next("more 1 c=1&", FACTOR);
        next("more 1 !", FACTOR);
        next("more 1 (", FACTOR);
        next("more 1 !c=1", DIGITS + "|&;");
        next("more 1 (c=1", DIGITS + "|&)");
        next("more 1 (c=12", "|&)");
        next("more 1 (c=1)", "|&;");
        next("more 1 ((c=1)", "|&)");
        next("more 1 (c=1|", FACTOR);
        next("more 1 (c=1)&", FACTOR);
        next("more 1 c=1;", "mlp");
    }

    private static void depth() {
        next("more 1 (((", FACTOR);
        next("more 1 !!!", FACTOR);
        next("more 1 !(!", FACTOR);
        next("more 1 ((((", LETTERS);
        next("more 1 !!!!", LETTERS);
        next("more 1 !(!(", LETTERS);
        next("more 1 (!(!", LETTERS);
        next("more 1 ((((c=1|", LETTERS);
        next("more 1 ((((c=1&", LETTERS);
        next("more 1 !(!(c=1|", LETTERS);
        next("more 1 ((((c=1)", "|&)");
        next("more 1 ((((c=1)|", FACTOR);
        next("more 1 (((!c=1|", FACTOR);
        next("more 1 (((!c=1&", FACTOR);
        next("more 1 !!!!c=1|", FACTOR);
        next("more 1 ((((c=1))))&", FACTOR);
        next("more 1 ((((c=1))))|((((c=1", DIGITS + "|&)");
        next("more 1 c=1;more 1 ((((c=1", DIGITS + "|&)");
        next("more 1 c=1;more 1 ((((", LETTERS);
    }

    /** Behind a beginning that ends too early or is a COUNTER: the signs with which one begins so, and no others. */
    private static void next(String beginning, String goesOn) {
        for (int sign = 0; sign <= 127; sign++) {
            boolean known = goesOn.indexOf((char) sign) >= 0;
            LittleMore x = new LittleMore();
            Checks.feed(x, beginning);
            x.feed(sign);
            int got = x.counter();
            String told = "7 FAULT: <" + beginning + "> and sign " + sign;
            if (!known) {
                CHECKS.due(told, got, -10 - beginning.length());
            } else {
                CHECKS.holds(told + ": one begins so, but " + got, got == 0 || got == -11 - beginning.length());
            }
        }
    }

    private static void tooEarly() {
        String whole = "more 12 !(c=1|k>23&t<4)";
        for (int k = 0; k < whole.length(); k++) {
            fault("7 FAULT: the end of THE TEXT", whole.substring(0, k), k);
        }
        good("7 as long as it must be", whole);
        fault("7 FAULT: the end of THE TEXT, behind a ;", "price 12;learn", 14);
        fault("7 FAULT: the first of two", "price 123;price 456", 8);
    }

    private static void last(String text, int price, int learn) {
        B.takes("T1 the last one's n", "", "counter:" + text, 0, "told 1 = " + price, "told 2 = " + learn);
    }

    private static void numbers() {
        last("price 0", 0, 1);
        last("price 00", 0, 1);
        last("price 7", 7, 1);
        last("price 07", 7, 1);
        last("price 99", 99, 1);
        last("learn 0", 5, 0);
        last("learn 99", 5, 99);
        last("price 3;learn 2;price 4;learn 6", 4, 6);
        last("learn 6;price 4;more 1 c=0;learn 2;price 3", 3, 2);
        last("more 1 c=0", 5, 1);
    }

    /** MORE of the one who is told of, whose OFF and TRUST are 5 together, by "more 7 " and this. */
    private static void test(String ahead, int customer, String expression, boolean holds) {
        String all = ahead + ", knife 0, counter:more 7 " + expression;
        int base = (int) Bounds.answer(Bounds.made(ahead + ", knife 0"), "of " + customer + " 8");
        B.asks("T1 a TEST: " + expression, all, "of " + customer + " 8", base + (holds ? 7 : 0));
    }

    /** The letter's number is n: each comparison with n - 1, n and n + 1. */
    private static void letter(String ahead, int customer, char letter, int n) {
        for (int by = -1; by <= 1; by++) {
            if (n + by >= 0 && n + by <= 99) {
                test(ahead, customer, letter + "<" + (n + by), by > 0);
                test(ahead, customer, letter + "=" + (n + by), by == 0);
                test(ahead, customer, letter + ">" + (n + by), by < 0);
            }
        }
    }

    private static void letters() {
        String six = "customer 0 6 50, customer 1 6 50, customer 2 6 50, customer 3 6 50, customer 4 6 50, customer 6 6 50";
        letter(six, 0, 'c', 0);
        letter(six, 5, 'c', 5);
        letter(six, 0, 'k', 0);
        letter(six, 4, 'k', 4);
        letter(six, 5, 'k', 6);
        letter(six + ", set 1 1 0", 1, 't', 0);
        letter(six + ", set 1 1 20", 1, 't', 20);
        letter(six, 1, 'o', 0);
        letter(six + ", set 1 2 99", 1, 'o', 99);
        letter(six, 1, 'n', 0);
        letter("customer 0 0 50, visit 0 *5", 0, 'n', 5);
        letter("customer 0 0 50, knife 3, visit 0 *99", 0, 'n', 99);
        int[] days = {0, 1, 2, 3, 4, 5, 6, 0, 1, 2, 3, 4, 5, 6, 0};
        for (int visits = 0; visits < days.length; visits++) {
            letter("customer 3 0 50, visit 0 *" + visits, 0, 'd', days[visits]);
        }
    }

    private static void truths() {
        String one = "customer 0 6 50";
        String yes = "c=0";
        String no = "c=1";
        String[] texts = {"Y", "N", "!Y", "!N", "!!Y", "!!!!Y", "!!!!N", "Y|N", "N|Y", "N|N", "Y|Y", "Y&N", "N&Y", "N&N",
            "Y&Y", "Y|Y&N", "N&Y|Y", "(Y|Y)&N", "N&(Y|Y)", "!N&N", "!(N&N)", "!Y|Y", "!(Y|Y)", "N|N|N|Y", "Y&Y&Y&N",
            "N|Y&Y|N", "((((Y))))", "((((N))))", "(N|Y)&(Y|N)", "!(!(Y)&!(N))"};
        boolean[] due = {true, false, false, true, true, true, false, true, true, false, true, false, false, false,
            true, true, true, false, false, false, true, true, false, true, false,
            true, true, false, true, true};
        for (int k = 0; k < texts.length; k++) {
            test(one, 0, texts[k].replace("Y", yes).replace("N", no), due[k]);
        }
    }

    private static void clausesTogether() {
        String one = "customer 0 6 50, counter:";
        B.asks("T1 more: n 0", one + "more 0 c=0", "of 0 8", 5);
        B.asks("T1 more: n 99", one + "more 99 c=0", "of 0 8", 104);
        B.asks("T1 less: n 0", one + "less 0 c=0", "of 0 8", 5);
        B.asks("T1 less: n 99", one + "less 99 c=0", "of 0 8", 0);
        B.asks("T1 all more, whose E holds", one + "more 1 c=0;more 2 c=1;more 4 c=0", "of 0 8", 10);
        B.asks("T1 less those of all less", one + "less 1 c=0;less 2 c=1;less 3 c=0", "of 0 8", 1);
        B.asks("T1 without a COUNTER there are no CLAUSES", "customer 0 6 50", "of 0 8", 5);
    }

    public static void main(String[] args) {
        feed();
        fullText();
        sixCounters();
        clauses();
        words();
        blanksAndNumbers();
        expressions();
        depth();
        tooEarly();
        numbers();
        letters();
        truths();
        clausesTogether();
        CHECKS.end();
        B.end();
    }
}
