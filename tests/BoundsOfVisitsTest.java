/** The bounds of promises 10 to 12, and of VISITS, SATURDAYS and ON in the Terms. */
public final class BoundsOfVisitsTest {
    private static final Bounds B = new Bounds("BoundsOfVisitsTest");
    private static final int NONE = -1, BAD = -2, STATE = -3;
    private static final String ONE = "customer 0 6 50", SIX = "customer 0 6 50 *6", GONE = ONE + ", set 0 3 1";

    private static void visit() {
        B.takes("10 what it PAYS", ONE, "visit 0", 275, "of 0 6 = 1");
        B.takes("10 customer: the largest", SIX, "visit 5", 275, "of 5 6 = 1", "of 4 6 = 0", "of 0 6 = 0");
        B.refuses("10 customer: too small", SIX, "visit -1", NONE);
        B.refuses("10 customer: too large", SIX, "visit 6", NONE);
        B.refuses("10 customer: not there yet", ONE, "visit 1", NONE);
        B.refuses("10 customer: nobody there", "", "visit 0", NONE);
        B.refuses("10 customer: far too small", SIX, "visit MIN", NONE);
        B.refuses("10 customer: far too large", SIX, "visit MAX", NONE);
        B.refuses("10 STATE: it is GONE", GONE, "visit 0", STATE);
        B.refuses("10 NONE for one who is not there, whoever is GONE", GONE, "visit 1", NONE);
        B.takes("10 one who is back", GONE + ", set 0 3 0", "visit 0", 275, "of 0 6 = 1");
        B.takes("T1 it PAYS PRICE for each: the least", ONE + ", counter:price 0", "visit 0", 0, "of 0 6 = 1");
        B.takes("T1 it PAYS PRICE for each: the most", ONE + ", counter:price 99", "visit 0", 55 * 99);
    }

    private static void saysNo() {
        String one = "customer 0 6 50, set 0 1 0, knife ";
        B.takes("T1 MORE is LETS: yes", one + "6", "visit 0", 280, "of 0 5 = 0", "of 0 3 = 1", "of 0 4 = 6");
        B.takes("T1 MORE is above LETS by one: no", one + "7", "visit 0", 265, "of 0 5 = 1", "of 0 3 = 0", "of 0 4 = 3");
        B.takes("T1 the half of MORE, even", one + "8", "visit 0", 270, "of 0 4 = 4");
        B.takes("T1 MORE is 0, and LETS 0: yes", "customer 0 0 50, set 0 1 0, knife 0", "visit 0", 250, "of 0 5 = 0",
            "of 0 3 = 1");
        B.takes("T1 the half of MORE: of 1 (cut)", "customer 0 0 50, set 0 1 0, knife 1", "visit 0", 250, "of 0 5 = 1",
            "of 0 3 = 0");
    }

    private static void trust() {
        String no = "customer 0 0 50, knife 30, set 0 1 ";
        B.takes("T1 TRUST is 2 less, 0 at least: from 0", no + "0", "visit 0", 325, "of 0 3 = 0");
        B.takes("T1 TRUST is 2 less, 0 at least: from 1", no + "1", "visit 0", 325, "of 0 3 = 0");
        B.takes("T1 TRUST is 2 less, 0 at least: from 2", no + "2", "visit 0", 330, "of 0 3 = 0");
        B.takes("T1 TRUST is 2 less, 0 at least: from 3", no + "3", "visit 0", 330, "of 0 3 = 1");
        B.takes("T1 TRUST is 2 less: from 20", no + "20", "visit 0", 375, "of 0 3 = 18");
        String yes = "customer 3 0 50, knife 0, ";
        B.takes("T1 TRUST is more by LEARN, 20 at most: from 18", yes + "set 0 1 18", "visit 0", 215, "of 0 3 = 19");
        B.takes("T1 TRUST is more by LEARN, 20 at most: from 19", yes + "set 0 1 19", "visit 0", 220, "of 0 3 = 20");
        B.takes("T1 TRUST is more by LEARN, 20 at most: from 20", yes + "set 0 1 20", "visit 0", 225, "of 0 3 = 20");
        String learn = yes + "set 0 1 3, counter:learn ";
        B.takes("T1 LEARN 0", learn + "0", "visit 0", 140, "of 0 3 = 3");
        B.takes("T1 LEARN to just 20", learn + "17", "visit 0", 140, "of 0 3 = 20");
        B.takes("T1 LEARN to beyond 20", learn + "18", "visit 0", 140, "of 0 3 = 20");
        B.takes("T1 LEARN 99", learn + "99", "visit 0", 140, "of 0 3 = 20");
    }

    private static void over() {
        String child = "customer 3 0 50, set 0 2 7, set 0 1 0, counter:more ";
        B.takes("T1 OVER is 0 at least: below WANTS by one", child + "22 c=0", "visit 0", 245, "of 0 4 = 0");
        B.takes("T1 OVER is 0 at least: just WANTS", child + "23 c=0", "visit 0", 250, "of 0 4 = 0");
        B.takes("T1 OVER is 0 at least: above WANTS by one", child + "24 c=0", "visit 0", 255, "of 0 4 = 1");
        String much = "customer 0 0 50, set 0 1 0, counter:more 99 c=0;more 97 c=0, knife ";
        B.takes("T1 OVER is 99 at most: 98", much + "1", "visit 0", 740, "of 0 4 = 98");
        B.takes("T1 OVER is 99 at most: 99", much + "2", "visit 0", 745, "of 0 4 = 99");
        B.takes("T1 OVER is 99 at most: 99 (cut)", much + "3", "visit 0", 745, "of 0 4 = 99");
        B.takes("T1 OVER is 99 at most: beyond", much + "4", "visit 0", 750, "of 0 4 = 99");
        B.takes("T1 OVER is that of the latest time", "customer 0 9 50, set 0 2 99", "visit 0", 275, "of 0 4 = 5");
    }

    private static void noesAndVisits() {
        String often = "customer 0 0 50, knife 30, visit 0 *";
        B.takes("T1 NOES are 99 at most: the 98th", often + "97", "visit 0", 325, "of 0 5 = 98");
        B.takes("T1 NOES are 99 at most: the 99th", often + "98", "visit 0", 325, "of 0 5 = 99");
        B.takes("T1 NOES are 99 at most: one more", often + "99", "visit 0", 325, "of 0 5 = 99", "of 0 6 = 100");
        // No run of 512 calls comes so far; what is beyond them is free, but this class goes on as it is told.
        String told = "customer 6 0 20, row 0 0 1, row 0 1 2, row 0 2 4, row 0 3 9, counter:learn 0, saturday *9997";
        B.takes("T1 VISITS are 9999 at most", told, "saturday", 85, "of 0 6 = 9998", "of 0 9 = 14", "saturday = 95",
            "of 0 6 = 9999", "visit 0 = 120", "of 0 6 = 9999", "saturday = 120", "of 0 6 = 9999", "visit 0 = 120");
        B.asks("T2 VISITS also beyond 9999", told + ", saturday *9", "on 0 5 0",
            24 + 16 + 17 + 19 + 24);
        B.asks("T2 VISITS also beyond 9999, modulo 7", "customer 0 9 20, counter:learn 0;more 1 d=3;more 2 d=4, "
            + "saturday *10001", "on 0 9 0", 9 * 25 + 1 + 2 + 1 + 2);
    }

    private static void leaving() {
        String one = "customer 5 0 50, knife 30, visit 0 *";
        B.takes("T1 LEAVING: one NO", one + "0", "visit 0", 330, "of 0 5 = 1", "of 0 7 = 0");
        B.takes("T1 LEAVING: two NOES", one + "1", "visit 0", 325, "of 0 5 = 2", "of 0 7 = 0");
        B.takes("T1 LEAVING: three NOES, it is GONE", one + "2", "visit 0", 325, "of 0 5 = 3", "of 0 7 = 1",
            "visit 0 = -3", "of 0 6 = 3");
        B.takes("T1 LEAVING: more than three NOES", one + "3, set 0 3 0", "visit 0", 325, "of 0 5 = 4", "of 0 7 = 1");
        B.takes("T1 LEAVING: three NOES, and it says yes", one + "3, set 0 3 0, knife 0", "visit 0", 250, "of 0 5 = 3",
            "of 0 7 = 0");
        for (int kind = 0; kind < 7; kind++) {
            String other = "customer " + kind + " 0 50, counter:more 99 c=0, knife 30, visit 0 *3";
            B.asks("T1 three NOES: kind " + kind, other, "of 0 5", 3);
            B.asks("T1 three NOES, and GONE is LEAVING alone: kind " + kind, other, "of 0 7", kind == 5 ? 1 : 0);
        }
    }

    private static void saturday() {
        B.takes("11 nobody", "", "saturday", 0, "count 0 = 0");
        B.takes("11 one", ONE, "saturday", 275, "of 0 6 = 1");
        B.takes("11 six", SIX, "saturday", 1650, "of 0 6 = 1", "of 5 6 = 1");
        B.takes("11 all who are not GONE", SIX + ", set 0 3 1, set 5 3 1", "saturday", 1100, "of 0 6 = 0", "of 1 6 = 1",
            "of 4 6 = 1", "of 5 6 = 0");
        B.takes("11 nobody who is not GONE", GONE, "saturday", 0, "of 0 6 = 0", "of 0 3 = 3");
        B.takes("11 PRICE 0", SIX + ", counter:price 0", "saturday", 0, "of 5 6 = 1");
    }

    private static void on(String ahead, int customer, int n, int... due) {
        for (int what = 0; what < 5; what++) {
            B.asks("12 ON, what " + what, ahead, "on " + customer + " " + n + " " + what, due[what]);
        }
    }

    private static void on() {
        on(ONE, 0, 0, 0, 0, 0, 3, 0);
        on(ONE + ", visit 0", 0, 0, 0, 0, 0, 4, 5);
        on(ONE, 0, 1, 55, 275, 0, 4, 5);
        // Yes with MORE 0, no with MORE 1, and so on: always what it asks for.
        String even = "customer 0 0 10, knife 0, set 0 1 0";
        on(even, 0, 39, 390, 1950, 19, 1, 0);
        on(even, 0, 40, 400, 2000, 20, 0, 0);
        on(SIX + ", set 5 1 2", 5, 1, 54, 270, 0, 3, 4);
        on(GONE + ", set 0 1 9, set 0 2 8", 0, 40, 0, 0, 0, 9, 8);
        on("customer 5 0 20, visit 0", 0, 2, 42, 210, 2, 0, 1);
        on("customer 5 0 20, visit 0", 0, 40, 42, 210, 2, 0, 1);
        String often = "customer 0 0 50, knife 30, visit 0 *";
        B.asks("12 NOES more, 99 at most: all count", often + "96", "on 0 3 2", 3);
        B.asks("12 NOES more, 99 at most: to just that", often + "98", "on 0 3 2", 1);
        B.asks("12 NOES more, 99 at most: none", often + "99", "on 0 3 2", 0);
        B.refuses("12 n: too small", ONE, "on 0 -1 0", BAD);
        B.refuses("12 n: too large", ONE, "on 0 41 0", BAD);
        B.refuses("12 n: far too small", ONE, "on 0 MIN 0", BAD);
        B.refuses("12 n: far too large", ONE, "on 0 MAX 4", BAD);
        B.refuses("12 what: too small", ONE, "on 0 1 -1", NONE);
        B.refuses("12 what: too large", ONE, "on 0 1 5", NONE);
        B.refuses("12 what: far too small", ONE, "on 0 1 MIN", NONE);
        B.refuses("12 what: far too large", ONE, "on 0 1 MAX", NONE);
        B.refuses("12 customer: too small", SIX, "on -1 1 0", NONE);
        B.refuses("12 customer: too large", SIX, "on 6 1 0", NONE);
        B.refuses("12 customer: nobody there", "", "on 0 1 0", NONE);
        B.refuses("12 NONE (customer) ahead of BAD", ONE, "on 1 41 0", NONE);
        B.refuses("12 NONE (what) ahead of BAD", ONE, "on 0 41 5", NONE);
        B.refuses("12 BAD of one who is GONE", GONE, "on 0 41 0", BAD);
    }

    public static void main(String[] args) {
        visit();
        saysNo();
        trust();
        over();
        noesAndVisits();
        leaving();
        saturday();
        on();
        B.end();
    }
}
