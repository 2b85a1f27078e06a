/** The bounds of promises 13 to 19: asked, dare, learnt, nobody, lost, over, nearest. */
public final class BoundsOfBestTest {
    private static final Bounds B = new Bounds("BoundsOfBestTest");
    private static final int NONE = -1, BAD = -2;
    private static final String ONE = "customer 0 6 50", SIX = "customer 0 6 50 *6", GONE = ONE + ", set 0 3 1";
    /** One who says yes to 0, but no behind 25, 32 and 39 visits: GONE behind the fortieth. */
    private static final String LATE = "customer 5 9 50, knife 0, set 0 1 0, counter:less 20 t>0;more 99 t=20&d=4";
    /** One who says no always; MORE is 0 behind so many NOES. */
    private static final String NOES = "customer 0 0 50, knife 3, set 0 1 0, counter:less 99 n>";

    private static void asked(String sentence, String ahead, int a, int buys) {
        B.asks("13 ASKED: " + sentence + ": a", ahead, "asked 0 0", a);
        B.asks("13 ASKED: " + sentence + ": what it BUYS", ahead, "asked 0 1", buys);
    }

    private static void asked() {
        asked("a is less than ASKS", ONE, 45, 50);
        asked("a is more than ASKS", "customer 3 6 50", 45, 50);
        asked("MORE is just LETS", "customer 0 5 50", 45, 50);
        asked("MORE is above LETS by one: the half (cut)", "customer 0 4 50", 48, 50);
        String ten = "customer 3 6 10, set 0 1 0, knife ";
        asked("a 2", ten + "8", 2, 10);
        asked("the least a is 1", ten + "9", 1, 10);
        asked("the least a is 1, and too much", ten + "10", 1, 11);
        asked("the least a is 1, and far too much", ten + "30", 1, 31);
        asked("the largest a is 99", "customer 3 6 99, knife 0, set 0 1 0", 99, 99);
        asked("a 98", "customer 3 6 99, knife 1, set 0 1 0", 98, 99);
        B.refuses("13 -5: it is GONE: a", GONE, "asked 0 0", -5);
        B.refuses("13 -5: it is GONE: what it BUYS", GONE, "asked 0 1", -5);
        B.refuses("13 what: too small", ONE, "asked 0 -1", NONE);
        B.refuses("13 what: too large", ONE, "asked 0 2", NONE);
        B.refuses("13 what: far too small", ONE, "asked 0 MIN", NONE);
        B.refuses("13 what: far too large", ONE, "asked 0 MAX", NONE);
        B.asks("13 customer: the largest", SIX, "asked 5 0", 45);
        B.refuses("13 customer: too small", SIX, "asked -1 0", NONE);
        B.refuses("13 customer: too large", SIX, "asked 6 0", NONE);
        B.refuses("13 customer: nobody there", "", "asked 0 0", NONE);
        B.refuses("13 NONE of one who is GONE", GONE, "asked 0 2", NONE);
    }

    private static void dare(String sentence, String ahead, int n, int off, int paid) {
        B.asks("14 DARE: " + sentence + ": the OFF", ahead, "dare " + n + " 0", off);
        B.asks("14 DARE: " + sentence + ": how much", ahead, "dare " + n + " 1", paid);
    }

    private static void dare() {
        String child = "customer 3 0 10, counter:price 1;learn 0";
        dare("the least n, the largest OFF", child, 1, 30, 38);
        dare("the largest n", child, 20, 30, 20 * 38);
        dare("one less", child, 19, 30, 19 * 38);
        dare("of several the least: the half of 33 and 32", "customer 0 9 50", 1, 29, 330);
        dare("of several the least: nobody", "", 1, 0, 0);
        dare("of several the least: nobody who is not GONE", GONE, 20, 0, 0);
        dare("of several the least: PRICE 0", ONE + ", counter:price 0", 20, 0, 0);
        // With 0 it lets 18 pass each time; with more it says no at first, and from 5 on it is GONE behind three.
        dare("the least OFF", "customer 5 9 50, set 0 1 18, counter:price 1;learn 0", 20, 0, 20 * 68);
        dare("the largest OFF, and MORE is just LETS", "customer 0 9 50, counter:price 1;less 24 t=3", 1, 30, 59);
        // Yes, no, yes, yes; from 5 on it is GONE behind three.
        dare("an OFF between", "customer 5 2 99", 4, 1, 5 * (103 + 101 + 102 + 103));
        dare("it is as if OFF were it now, whatever it is", child + ", knife 30", 1, 30, 38);
        B.refuses("14 n: too small", ONE, "dare 0 0", BAD);
        B.refuses("14 n: too large", ONE, "dare 21 0", BAD);
        B.refuses("14 n: far too small", ONE, "dare MIN 1", BAD);
        B.refuses("14 n: far too large", ONE, "dare MAX 1", BAD);
        B.refuses("14 what: too small", ONE, "dare 1 -1", NONE);
        B.refuses("14 what: too large", ONE, "dare 1 2", NONE);
        B.refuses("14 what: far too small", ONE, "dare 1 MIN", NONE);
        B.refuses("14 what: far too large", ONE, "dare 1 MAX", NONE);
        B.refuses("14 NONE ahead of BAD", ONE, "dare 21 2", NONE);
        B.refuses("14 NONE ahead of BAD, too small both", ONE, "dare 0 -1", NONE);
        B.refuses("14 BAD with nobody", "", "dare 21 0", BAD);
    }

    private static void learnt() {
        B.asks("15 none is needed: MORE is just q", ONE, "learnt 0 5", 0);
        B.asks("15 q: the largest", ONE, "learnt 0 99", 0);
        // MORE: 5 (no), 3 (yes), 4 (yes), 5 (no), 3 ..
        B.asks("15 MORE is less than q behind one", "customer 0 4 50", "learnt 0 4", 1);
        B.asks("15 MORE is just q behind one", "customer 0 4 50", "learnt 0 3", 1);
        B.asks("15 -5: MORE stays above q by one", "customer 0 4 50", "learnt 0 2", -5);
        B.asks("15 q: the least", "customer 0 0 50, knife 0", "learnt 0 0", 2);
        B.asks("15 q: the least, and MORE is 1", "customer 0 0 50, knife 0, set 0 1 1", "learnt 0 0", 1);
        B.asks("15 q: the least, and MORE is 0", "customer 0 0 50, knife 0, set 0 1 0", "learnt 0 0", 0);
        B.asks("15 the fortieth VISIT", NOES + "39", "learnt 0 0", 40);
        B.asks("15 the 39th VISIT", NOES + "38", "learnt 0 0", 39);
        B.asks("15 -5: the 41st VISIT", NOES + "40", "learnt 0 0", -5);
        B.asks("15 of one who is GONE, MORE is q", GONE, "learnt 0 5", 0);
        B.asks("15 of one who is GONE, MORE is above q", GONE, "learnt 0 4", -5);
        B.asks("15 of one who goes: its last", "customer 5 0 20", "learnt 0 2", 2);
        B.asks("15 of one who goes", "customer 5 0 20", "learnt 0 1", -5);
        B.refuses("15 q: too small", ONE, "learnt 0 -1", BAD);
        B.refuses("15 q: too large", ONE, "learnt 0 100", BAD);
        B.refuses("15 q: far too small", ONE, "learnt 0 MIN", BAD);
        B.refuses("15 q: far too large", ONE, "learnt 0 MAX", BAD);
        B.asks("15 customer: the largest", SIX + ", set 5 1 0", "learnt 5 2", 0);
        B.refuses("15 customer: too small", SIX, "learnt -1 5", NONE);
        B.refuses("15 customer: too large", SIX, "learnt 6 5", NONE);
        B.refuses("15 customer: nobody there", "", "learnt 0 5", NONE);
        B.refuses("15 NONE ahead of BAD", ONE, "learnt 1 100", NONE);
        B.refuses("15 BAD of one who is GONE", GONE, "learnt 0 100", BAD);
    }

    private static void nobody() {
        B.asks("16 nobody is there", "", "nobody", 0);
        B.asks("16 nobody would say no", ONE, "nobody", 0);
        B.asks("16 behind one", "customer 0 4 50", "nobody", 1);
        B.asks("16 the fortieth SATURDAY", NOES + "39", "nobody", 40);
        B.asks("16 the 39th SATURDAY", NOES + "38", "nobody", 39);
        B.asks("16 -5: the 41st SATURDAY", NOES + "40", "nobody", -5);
        B.asks("16 one of two would say no", "customer 0 9 50, customer 0 4 50", "nobody", 1);
        B.asks("16 who is GONE says nothing", "customer 0 9 50, customer 0 0 50, set 1 3 1", "nobody", 0);
        B.asks("16 who goes says nothing then", "customer 5 0 20", "nobody", 3);
        B.asks("16 all are GONE", "customer 0 0 50, set 0 3 1", "nobody", 0);
    }

    private static void lost() {
        B.asks("17 n: the least", "customer 5 0 20, customer 0 0 50, set 1 3 1", "lost 0", 2);
        B.asks("17 n: the largest", LATE, "lost 40", 1);
        B.asks("17 n: one less than the largest", LATE, "lost 39", 0);
        B.asks("17 three NOES", "customer 5 0 20", "lost 3", 1);
        B.asks("17 two NOES", "customer 5 0 20", "lost 2", 0);
        B.asks("17 nobody is there", "", "lost 40", 0);
        B.asks("17 all six", "customer 5 0 20 *6", "lost 3", 63);
        B.asks("17 the last alone", "customer 0 0 20 *5, customer 5 0 20", "lost 40", 32);
        B.refuses("17 n: too small", ONE, "lost -1", BAD);
        B.refuses("17 n: too large", ONE, "lost 41", BAD);
        B.refuses("17 n: far too small", ONE, "lost MIN", BAD);
        B.refuses("17 n: far too large", ONE, "lost MAX", BAD);
        B.refuses("17 BAD with nobody", "", "lost 41", BAD);
    }

    private static void over() {
        int none = -1000001;
        int bad = -1000002;
        B.asks("18 p, n: the least", ONE, "over 0 1 1", 275 - 50);
        B.asks("18 p: the largest", ONE, "over 0 99 1", 275 - 99 * 50);
        B.asks("18 may be below 0", "customer 3 0 50, knife 0, set 0 1 0", "over 0 5 1", 125 - 250);
        B.asks("18 just 0", "customer 0 0 50, knife 0, set 0 1 0", "over 0 5 1", 0);
        // Yes with MORE 0, no with MORE 1, and so on: always what it asks for.
        B.asks("18 n: the largest", "customer 0 0 50, knife 0, set 0 1 0", "over 0 4 40", 40 * 50);
        B.asks("18 n: one less than the largest", "customer 0 0 50, knife 0, set 0 1 0", "over 0 4 39", 39 * 50);
        B.asks("18 the least that can be", "customer 0 0 99, set 0 3 1", "over 0 99 40", -40 * 99 * 99);
        B.asks("18 who is GONE makes no VISIT", GONE, "over 0 2 3", -300);
        B.asks("18 who goes makes no more", "customer 5 0 20", "over 0 1 40", 5 * (22 + 21 + 21) - 800);
        B.refuses("18 p: too small", ONE, "over 0 0 1", bad);
        B.refuses("18 p: too large", ONE, "over 0 100 1", bad);
        B.refuses("18 p: far too small", ONE, "over 0 MIN 1", bad);
        B.refuses("18 p: far too large", ONE, "over 0 MAX 1", bad);
        B.refuses("18 n: too small", ONE, "over 0 1 0", bad);
        B.refuses("18 n: too large", ONE, "over 0 1 41", bad);
        B.refuses("18 n: far too small", ONE, "over 0 1 MIN", bad);
        B.refuses("18 n: far too large", ONE, "over 0 1 MAX", bad);
        B.asks("18 customer: the largest", SIX, "over 5 5 1", 25);
        B.refuses("18 customer: too small", SIX, "over -1 1 1", none);
        B.refuses("18 customer: too large", SIX, "over 6 1 1", none);
        B.refuses("18 customer: nobody there", "", "over 0 1 1", none);
        B.refuses("18 NONE ahead of BAD: p", ONE, "over 1 0 1", none);
        B.refuses("18 NONE ahead of BAD: n", ONE, "over 1 1 41", none);
        B.refuses("18 BAD of one who is GONE", GONE, "over 0 100 1", bad);
    }

    private static void nearest() {
        // The first buys what it wants, but 8 more at its twentieth VISIT; the second buys 1 more at its first.
        String two = "customer 0 9 50, customer 0 9 50, knife 0, set 0 1 0, set 1 1 0, "
            + "counter:less 20 t>0;more 9 c=0&t=19;more 1 c=1&t=0";
        B.asks("19 n: the least", two, "nearest 1", 0);
        B.asks("19 n: one less than the largest", two, "nearest 19", 0);
        B.asks("19 n: the largest", two, "nearest 20", 1);
        B.refuses("19 n: too small", ONE, "nearest 0", BAD);
        B.refuses("19 n: too large", ONE, "nearest 21", BAD);
        B.refuses("19 n: far too small", ONE, "nearest MIN", BAD);
        B.refuses("19 n: far too large", ONE, "nearest MAX", BAD);
        B.asks("19 -5: nobody is there", "", "nearest 1", -5);
        B.refuses("19 BAD with nobody", "", "nearest 21", BAD);
        B.asks("19 of several the first: all alike", SIX, "nearest 3", 0);
        B.asks("19 of several the first: behind one who is farther", "customer 0 9 50, customer 0 4 50, customer 0 4 50",
            "nearest 1", 1);
        B.asks("19 the last of six", SIX + ", set 5 1 0", "nearest 1", 5);
        B.asks("19 too little and too much are alike far: the first", "customer 3 0 20, customer 0 9 20, knife 1, "
            + "set 0 1 0, set 1 1 8", "nearest 1", 0);
        B.asks("19 too much and too little are alike far: the first", "customer 0 9 20, customer 3 0 20, knife 1, "
            + "set 1 1 0, set 0 1 8", "nearest 1", 0);
        String gone = "customer 0 0 10, set 0 3 1, customer 0 9 50, knife ";
        B.asks("19 who is GONE: 0, and that is nearer by one", gone + "19", "nearest 1", 0);
        B.asks("19 who is GONE: 0, and that is as near", gone + "18", "nearest 1", 0);
        B.asks("19 who is GONE: 0, and that is farther by one", gone + "16", "nearest 1", 1);
        B.asks("19 all are GONE: who wants least", "customer 0 0 30, customer 0 0 20, set 0 3 1, set 1 3 1", "nearest 20",
            1);
    }

    public static void main(String[] args) {
        asked();
        dare();
        learnt();
        nobody();
        lost();
        over();
        nearest();
        B.end();
    }
}
