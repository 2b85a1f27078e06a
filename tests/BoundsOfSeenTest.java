/** The bounds of promises 20 to 26: see, who, offs, odds, mean, book, looked. */
public final class BoundsOfSeenTest {
    private static final Bounds B = new Bounds("BoundsOfSeenTest");
    private static final int NONE = -1, BAD = -2, FULL = -4;
    private static final long NO = Long.MIN_VALUE;
    private static final String SIX = "customer 0 6 50 *6";
    /** Its next CUTS are 55 (yes), 56 (yes), 57 (no), 55 (yes), 56. */
    private static final String ONE = "customer 0 6 50";
    /** Its next CUTS are 25, 23, 22, all no: it is GONE behind them. */
    private static final String GOING = "customer 5 0 20";
    /** One who says yes to 0, but no to 99 behind 25, 32 and 39 visits: GONE behind the fortieth. */
    private static final String LATE = "customer 5 9 50, knife 0, set 0 1 0, counter:less 20 t>0;more 99 t=20&d=4";

    private static void see() {
        B.takes("20 cut: the least", "", "see 0", 1, "count 2 = 1");
        B.takes("20 cut: the largest", "", "see 999", 1, "count 2 = 1");
        B.refuses("20 cut: too small", "see 5", "see -2", BAD);
        B.refuses("20 cut: too large", "see 5", "see 1000", BAD);
        B.refuses("20 cut: far too small", "see 5", "see MIN", BAD);
        B.refuses("20 cut: far too large", "see 5", "see MAX", BAD);
        B.takes("20 how many there are", "", "see 5", 1, "see 5 = 2", "see 6 = 3", "see 7 = 4", "count 2 = 4");
        B.takes("20 -1: none then", "see 5 *3", "see -1", 0, "count 2 = 0", "see 5 = 1");
        B.takes("20 -1: none then, when none were", "", "see -1", 0, "count 2 = 0");
        B.takes("20 -1: none then, when full", "see 5 *4", "see -1", 0, "count 2 = 0", "see 5 = 1");
        B.takes("20 4 at most: the fourth", "see 5 *3", "see 6", 4, "count 2 = 4");
        B.refuses("20 FULL: the fifth", ONE + ", see 55, see 56, see 57, see 55", "see 56", FULL);
        B.refuses("20 BAD ahead of FULL: too large", "see 5 *4", "see 1000", BAD);
        B.refuses("20 BAD ahead of FULL: too small", "see 5 *4", "see -2", BAD);
    }

    private static void who() {
        B.asks("21 nobody is there", "", "who", 0);
        B.asks("21 nobody is there, and a CUT is SEEN", "see 55", "who", 0);
        B.asks("21 nothing is SEEN: everyone", SIX, "who", 63);
        B.asks("21 nothing is SEEN: who is GONE too", SIX + ", set 2 3 1", "who", 63);
        B.asks("21 just this CUT", ONE + ", see 55", "who", 1);
        B.asks("21 one less", ONE + ", see 54", "who", 0);
        B.asks("21 one more", ONE + ", see 56", "who", 0);
        B.asks("21 four CUTS", ONE + ", see 55, see 56, see 57, see 55", "who", 1);
        B.asks("21 four CUTS, the last otherwise", ONE + ", see 55, see 56, see 57, see 56", "who", 0);
        B.asks("21 four CUTS, the first otherwise", ONE + ", see 56, see 56, see 57, see 55", "who", 0);
        B.asks("21 a CUT is what is cut, not what it BUYS", "customer 0 4 50, see 55, see 53", "who", 1);
        B.asks("21 the first of six alone", SIX + ", set 0 1 9, see 61", "who", 1);
        B.asks("21 the last of six alone", SIX + ", set 5 1 9, see 61", "who", 32);
        B.asks("21 all six", SIX + ", see 55, see 56", "who", 63);
        B.asks("21 the least CUT that can be", "customer 1 0 10, set 0 2 99, set 0 1 0, knife 0, see 1", "who", 1);
        B.asks("21 no CUT is 0", "customer 1 0 10, set 0 2 99, set 0 1 0, knife 0, see 0", "who", 0);
        B.asks("21 who is GONE ahead of one: not", ONE + ", set 0 3 1, see 55", "who", 0);
        B.asks("21 who goes by the last of them", GOING + ", see 25, see 23, see 22", "who", 1);
        B.asks("21 who goes ahead of the last of them", GOING + ", see 25, see 23, see 22, see 22", "who", 0);
    }

    private static void offs(String sentence, String ahead, int many, int least) {
        B.asks("22 OFFS: " + sentence + ": how many", ahead, "offs 0 0", many);
        B.asks("22 OFFS: " + sentence + ": the least", ahead, "offs 0 1", least);
    }

    private static void offs() {
        offs("nothing is SEEN: all", ONE, 31, 0);
        offs("nothing is SEEN: all, of one who is GONE too", ONE + ", set 0 3 1", 31, 0);
        offs("the OFF that is", ONE + ", see 55", 1, 2);
        offs("the least OFF", ONE + ", see 53", 1, 0);
        offs("below the least OFF", ONE + ", see 52", 0, -5);
        offs("the largest OFF", ONE + ", see 83", 1, 30);
        offs("above the largest OFF", ONE + ", see 84", 0, -5);
        offs("all there are", ONE + ", counter:less 99 c=0, see 50", 31, 0);
        offs("all there are but one", ONE + ", counter:less 32 d=0, see 50", 30, 0);
        offs("the largest OFF alone", ONE + ", counter:less 32 d=0, see 51", 1, 30);
        offs("several", ONE + ", counter:less 10 d=0, see 50", 8, 0);
        offs("several and then one", ONE + ", counter:less 10 d=0, see 50, see 56", 1, 2);
        offs("several and then none", ONE + ", counter:less 10 d=0, see 50, see 64", 0, -5);
        offs("who is GONE ahead of one", ONE + ", see 55, set 0 3 1", 0, -5);
        offs("who goes by the last of them", GOING + ", see 25, see 23, see 22", 1, 2);
        offs("who goes ahead of the last of them", GOING + ", see 25, see 23, see 22, see 22", 0, -5);
        B.asks("22 customer: the largest", SIX + ", set 5 1 9, see 61", "offs 5 1", 2);
        B.refuses("22 what: too small", ONE, "offs 0 -1", NONE);
        B.refuses("22 what: too large", ONE, "offs 0 2", NONE);
        B.refuses("22 what: far too small", ONE, "offs 0 MIN", NONE);
        B.refuses("22 what: far too large", ONE, "offs 0 MAX", NONE);
        B.refuses("22 customer: too small", SIX, "offs -1 0", NONE);
        B.refuses("22 customer: too large", SIX, "offs 6 0", NONE);
        B.refuses("22 customer: nobody there", "", "offs 0 1", NONE);
        B.refuses("22 customer: far too large", SIX, "offs MAX 0", NONE);
    }

    private static void fraction(String sentence, String ahead, String call, long above, long below) {
        B.asks(sentence + ": above the line", ahead, call + " 0", above);
        B.asks(sentence + ": below the line", ahead, call + " 1", below);
    }

    /** So many of six would say no. */
    private static String saying(int no) {
        return "customer 0 9 50 *" + (6 - no) + ", customer 0 0 50 *" + no;
    }

    private static void odds() {
        fraction("23 n: the least", ONE, "odds 0", 0, 1);
        String late = "customer 0 0 50, knife 3, set 0 1 0, counter:less 99 n>39";
        fraction("23 n: the largest", late, "odds 40", 0, 1);
        fraction("23 n: one less than the largest", late, "odds 39", 1, 1);
        fraction("23 NO: nobody is left behind the fortieth", LATE, "odds 40", NO, NO);
        fraction("23 one is left behind the 39th", LATE, "odds 39", 1, 1);
        fraction("23 n: too small", ONE, "odds -1", NO, NO);
        fraction("23 n: too large", ONE, "odds 41", NO, NO);
        fraction("23 n: far too small", ONE, "odds MIN", NO, NO);
        fraction("23 n: far too large", ONE, "odds MAX", NO, NO);
        B.refuses("23 part: too small", ONE, "odds 0 -1", NO);
        B.refuses("23 part: too large", ONE, "odds 0 2", NO);
        B.refuses("23 part: far too small", ONE, "odds 0 MIN", NO);
        B.refuses("23 part: far too large", ONE, "odds 0 MAX", NO);
        fraction("23 NO: nobody is there", "", "odds 0", NO, NO);
        fraction("23 NO: nobody is left", ONE + ", set 0 3 1", "odds 0", NO, NO);
        fraction("23 NO: nobody is left then", GOING, "odds 3", NO, NO);
        fraction("23 one is left then", GOING, "odds 2", 1, 1);
        int[][] lowest = {{0, 1}, {1, 6}, {1, 3}, {1, 2}, {2, 3}, {5, 6}, {1, 1}};
        for (int no = 0; no <= 6; no++) {
            String ahead = no == 0 ? SIX : no == 6 ? "customer 0 0 50 *6" : saying(no);
            fraction("23 in lowest terms: " + no + " of 6", ahead, "odds 0", lowest[no][0], lowest[no][1]);
        }
        fraction("23 who is GONE does not come", saying(3) + ", set 0 3 1, set 5 3 1", "odds 0", 1, 2);
        fraction("23 who is GONE does not come: the only one who says no", saying(1) + ", set 5 3 1", "odds 0", 0, 1);
        fraction("23 behind one SATURDAY", "customer 0 4 50, customer 0 5 50", "odds 1", 1, 2);
    }

    private static void mean() {
        fraction("24 n: the least", ONE, "mean 1", 5, 1);
        fraction("24 n: the largest", LATE, "mean 40", 3 * 49, 40);
        fraction("24 n: one less than the largest", LATE, "mean 39", 2 * 49, 39);
        fraction("24 n: too small", ONE, "mean 0", NO, NO);
        fraction("24 n: too large", ONE, "mean 41", NO, NO);
        fraction("24 n: far too small", ONE, "mean MIN", NO, NO);
        fraction("24 n: far too large", ONE, "mean MAX", NO, NO);
        B.refuses("24 part: too small", ONE, "mean 1 -1", NO);
        B.refuses("24 part: too large", ONE, "mean 1 2", NO);
        B.refuses("24 part: far too small", ONE, "mean 1 MIN", NO);
        B.refuses("24 part: far too large", ONE, "mean 1 MAX", NO);
        fraction("24 NO: nobody is there", "", "mean 1", NO, NO);
        fraction("24 NO: all are GONE", ONE + ", set 0 3 1", "mean 40", NO, NO);
        fraction("24 in lowest terms", ONE, "mean 2", 11, 2);
        fraction("24 in lowest terms: 6 by 2", "customer 0 9 50, customer 0 9 50, set 1 1 1, knife 1", "mean 1", 3, 1);
        fraction("24 in lowest terms: 0", ONE + ", counter:less 99 c=0", "mean 40", 0, 1);
        fraction("24 all six", SIX, "mean 1", 5, 1);
        fraction("24 VISITS of those who are not GONE alone", "customer 0 9 50, customer 0 9 50, set 0 1 0, set 0 3 1",
            "mean 1", 5, 1);
        fraction("24 who goes makes no more VISITS", GOING, "mean 40", 4, 3);
        fraction("24 what was asked for: ASKS, not WANTS", "customer 3 0 50", "mean 1", 5, 1);
        fraction("24 what is BOUGHT, not what is cut", "customer 0 0 50", "mean 1", 2, 1);
        fraction("24 ASKS change by OVER", "customer 1 9 50, set 0 2 9", "mean 1", 2, 1);
    }

    private static void book() {
        B.takes("25 how many there are", ONE, "book 0", 1, "book 0 = 2", "count 3 = 2");
        B.takes("25 customer: the largest", SIX, "book 5", 1, "count 3 = 1");
        B.takes("25 8 at most: the eighth", SIX + ", book 1 *7", "book 0", 8, "count 3 = 8");
        B.refuses("25 FULL: the ninth", SIX + ", book 1 *8", "book 0", FULL);
        B.takes("25 -1: it is empty then", ONE + ", book 0 *3", "book -1", 0, "count 3 = 0", "book 0 = 1");
        B.takes("25 -1: it is empty then, when it was", ONE, "book -1", 0, "count 3 = 0");
        B.takes("25 -1: it is empty then, when full", ONE + ", book 0 *8", "book -1", 0, "count 3 = 0", "book 0 = 1");
        B.takes("25 -1 with nobody there", "", "book -1", 0, "count 3 = 0");
        B.refuses("25 customer: too small", SIX + ", book 1", "book -2", NONE);
        B.refuses("25 customer: too large", SIX + ", book 1", "book 6", NONE);
        B.refuses("25 customer: not there yet", ONE + ", book 0", "book 1", NONE);
        B.refuses("25 customer: nobody there", "", "book 0", NONE);
        B.refuses("25 customer: far too small", SIX + ", book 1", "book MIN", NONE);
        B.refuses("25 customer: far too large", SIX + ", book 1", "book MAX", NONE);
        B.refuses("25 NONE ahead of FULL", SIX + ", book 1 *8", "book 6", NONE);
        B.takes("25 who is GONE may come to it", ONE + ", set 0 3 1", "book 0", 1, "count 3 = 1");
    }

    private static void looked() {
        B.asks("26 -5: the BOOK is empty", "customer 0 0 50", "looked", -5);
        B.asks("26 -5: nobody is there", "", "looked", -5);
        B.asks("26 -5: none says no", ONE + ", book 0 *2", "looked", -5);
        B.asks("26 the first says no", "customer 0 0 50, book 0", "looked", 0);
        B.asks("26 the number of the CUSTOMER, not its place", "customer 0 9 50, customer 0 0 50, book 0 *3, book 1",
            "looked", 1);
        B.asks("26 at its third VISIT", ONE + ", book 0 *3", "looked", 0);
        String late = "customer 0 0 50 *5, customer 0 9 50, set 5 1 0, ";
        B.asks("26 the eighth says no, the largest CUSTOMER", late + "set 5 1 1, book 5 *8", "looked", 5);
        B.asks("26 a ninth would say no", late + "book 5 *8", "looked", -5);
        B.asks("26 the first of two who would", "customer 0 0 50, customer 0 0 50, book 1, book 0", "looked", 1);
        B.asks("26 one who is GONE says nothing", "customer 0 0 50, set 0 3 1, book 0", "looked", -5);
        B.asks("26 one who is GONE says nothing, the next one does", "customer 0 0 50, customer 0 0 50, set 0 3 1, "
            + "book 0, book 1", "looked", 1);
        B.asks("26 who is not in the BOOK does not come", "customer 0 9 50, customer 0 0 50, book 0 *4", "looked", -5);
        B.asks("26 from now on", ONE + ", visit 0, book 0 *2", "looked", 0);
        B.asks("26 who would go is the first that says no", GOING + ", book 0 *4", "looked", 0);
    }

    public static void main(String[] args) {
        see();
        who();
        offs();
        odds();
        mean();
        book();
        looked();
        B.end();
    }
}
