/** The bounds of promises 27 to 33: judge, image, undo, act, trace, taken, count. */
public final class BoundsOfImageTest {
    private static final Bounds B = new Bounds("BoundsOfImageTest");
    private static final Checks CHECKS = new Checks("BoundsOfImageTest, images");
    private static final int NONE = -1, BAD = -2, STATE = -3, NOTHING = -11, CAST = -12;
    private static final String ONE = "customer 0 6 50", SIX = "customer 0 6 50 *6";
    private static final String THREES = ", tape 0 0 7, item 0 0 3, item 0 1 3, item 0 2 3, item 0 3 3, item 0 4 3, item 0 5 3";

    private static void judge() {
        B.asks("27 tape: the least, as told", ONE + ", tape 0 0 1, item 0 0 3", "judge 0 0", -5);
        B.asks("27 tape: the largest, as told", ONE + ", tape 5 0 1, item 5 0 3", "judge 5 0", -5);
        B.refuses("27 tape: too small", ONE, "judge -1 0", NONE);
        B.refuses("27 tape: too large", ONE, "judge 6 0", NONE);
        B.refuses("27 tape: far too small", ONE, "judge MIN 0", NONE);
        B.refuses("27 tape: far too large", ONE, "judge MAX 0", NONE);
        B.refuses("27 NONE with nobody there", "", "judge 6 0", NONE);
        for (int sort = 1; sort < 5; sort++) {
            B.refuses("27 CAST: a row of sort " + sort, ONE + ", tape 0 " + sort + " 1, item 0 0 3", "judge 0 0", CAST);
            B.refuses("27 CAST: an empty row", ONE + ", tape 0 " + sort + " 0", "judge 0 0", CAST);
            B.refuses("27 CAST: and the place is below 0", ONE + ", tape 0 " + sort + " 1", "judge 0 -1", CAST);
            B.refuses("27 CAST: and nobody is there", "tape 0 " + sort + " 1", "judge 0 0", CAST);
        }
        B.asks("T3 the first that is otherwise: the first of six", SIX + THREES + ", set 0 1 4", "judge 0 0", 0);
        B.asks("T3 the first that is otherwise: the last of six", SIX + THREES + ", set 5 1 4", "judge 0 0", 5);
        B.asks("T3 the first that is otherwise: of two", SIX + THREES + ", set 4 1 4, set 2 1 4", "judge 0 0", 2);
        B.asks("T3 none is otherwise", SIX + THREES, "judge 0 0", -5);
        B.asks("T3 otherwise, ahead of the end of the row", SIX + THREES + ", set 0 1 4", "judge 0 5", 0);
        B.asks("T3 from a place on", SIX + THREES + ", item 0 6 3, item 0 0 9", "judge 0 1", -5);
        B.asks("T3 from a place on: the first", SIX + THREES + ", item 0 6 3, item 0 0 9", "judge 0 0", 0);
        B.asks("T3 an item is just the TRUST, one less", ONE + ", tape 0 0 1, item 0 0 2", "judge 0 0", 0);
        B.asks("T3 an item is just the TRUST, one more", ONE + ", tape 0 0 1, item 0 0 4", "judge 0 0", 0);
        B.asks("T3 TRUST 0", ONE + ", set 0 1 0, tape 0 0 1", "judge 0 0", -5);
        B.asks("T3 TRUST 20", ONE + ", set 0 1 20, tape 0 0 1, item 0 0 20", "judge 0 0", -5);
        judgedRowEnds();
    }

    private static void judgedRowEnds() {
        B.asks("T3 the row ends as they do", SIX + THREES.replace("0 0 7", "0 0 6"), "judge 0 0", -5);
        String told = SIX + THREES.replace("0 0 7", "0 0 6");
        for (int looked = 0; looked < 6; looked++) {
            B.asks("T3 the row ends ahead of that", told, "judge 0 " + (6 - looked), 100 + looked);
        }
        B.asks("T3 the place is beyond the row's end", told, "judge 0 7", 100);
        B.asks("T3 the place is far beyond", told, "judge 0 MAX", 100);
        B.asks("T3 the place is below 0", told, "judge 0 -1", 100);
        B.asks("T3 the place is far below 0", told, "judge 0 MIN", 100);
        B.asks("T3 the TAPE holds nothing", ONE, "judge 0 0", 100);
        B.asks("T3 the TAPE holds nothing any more", told + ", tape 0 -1 0", "judge 0 0", 100);
        B.asks("T3 an empty row", ONE + ", tape 0 0 0", "judge 0 0", 100);
        B.asks("T3 there is none to look at: a row", "tape 0 0 3", "judge 0 0", -5);
        B.asks("T3 there is none to look at: behind the row", "tape 0 0 3", "judge 0 3", -5);
        B.asks("T3 there is none to look at: below 0", "tape 0 0 3", "judge 0 -1", -5);
        B.asks("T3 there is none to look at: nothing held", "", "judge 0 0", -5);
        B.asks("T3 who is GONE is looked at too", ONE + ", set 0 3 1, tape 0 0 1", "judge 0 0", 0);
    }

    private static void image() {
        B.takes("28 how many CUSTOMERS: none", "", "image", 0, "undo = 0");
        B.takes("28 how many CUSTOMERS: six", SIX, "image", 6, "undo = 6");
        B.refuses("29 STATE: there is none", SIX, "undo", STATE);
        B.takes("29 how many CUSTOMERS: as in THE IMAGE", ONE + ", image, customer 0 6 50 *5", "undo", 1, "count 0 = 1",
            "of 1 0 = -1", "customer 3 1 60 = 1");
        B.takes("29 six are no more than one then", "image, customer 0 6 50 *6", "undo", 0, "customer 5 0 20 = 0");
        B.takes("29 who comes then is as at first", "image, customer 5 0 20, visit 0 *3, undo", "customer 6 7 60", 0,
            "of 0 0 = 6", "of 0 1 = 7", "of 0 2 = 60", "of 0 3 = 3", "of 0 4 = 0", "of 0 5 = 0", "of 0 6 = 0",
            "of 0 7 = 0");
        B.takes("29 who comes then has a ROW of 0", "image, customer 6 0 20, row 0 0 1, row 0 1 2, row 0 2 3, row 0 3 4, "
            + "undo", "customer 6 7 60", 0, "row 0 0 9 = 0", "row 0 1 9 = 0", "row 0 2 9 = 0", "row 0 3 9 = 0");
        B.takes("28 the newest IMAGE", ONE + ", image, visit 0, image, visit 0", "undo", 1, "of 0 6 = 1");
        B.takes("29 THE IMAGE stays", ONE + ", image, visit 0, undo, visit 0 *2", "undo", 1, "of 0 6 = 0");
        B.takes("29 no COUNTER holds, as in THE IMAGE", ONE + ", image, counter:price 7;more 9 c=0", "undo", 1,
            "told 1 = 5", "of 0 8 = 5", "count 1 = 1", "counter = -10");
        B.takes("29 the COUNTER that held", ONE + ", counter:price 7;learn 4;more 9 c=0, image, counter:price 8", "undo", 1,
            "told 1 = 7", "told 2 = 4", "of 0 8 = 14", "count 1 = 2");
        B.takes("29 COUNTERS that were made stay made", "image, counter:price 1, counter:price 2, counter:price 3, "
            + "counter:price 4, counter:price 5", "undo", 0, "counter:price 6 = 5", "counter:price 7 = -4");
    }

    /** Behind image, these calls and undo all is as behind image alone. */
    private static void undone(String what, String changes) {
        String ahead = "customer 6 6 50, customer 0 6 50, customer 2 3 40, row 0 0 1, row 0 1 2, row 0 2 3, row 0 3 4, visit 1, knife 3, "
            + "see 33, see 36, book 1, book 2, counter:price 7;learn 2;more 1 t>2, tape 0 0 2, act 0 2 1, feed:pric, image";
        String due = Probe.look(Bounds.made(ahead));
        CHECKS.holds("29 undone: " + what, due.equals(Probe.look(Bounds.made(ahead + ", " + changes + ", undo"))));
        CHECKS.holds("29 undone again: " + what,
            due.equals(Probe.look(Bounds.made(ahead + ", undo, " + changes + ", undo"))));
        CHECKS.holds("29 a change: " + what, !due.equals(Probe.look(Bounds.made(ahead + ", " + changes))));
    }

    private static void undone() {
        undone("WANTS", "set 0 0 99");
        undone("TRUST", "set 1 1 20");
        undone("OVER", "set 1 2 99");
        undone("GONE", "set 1 3 1");
        undone("NOES and VISITS", "visit 1 *9");
        undone("VISITS of all", "saturday");
        for (int part = 0; part < 4; part++) {
            undone("the ROW at " + part, "row 0 " + part + " 9");
        }
        undone("OFF", "knife 30");
        undone("SEEN: one more", "see 38");
        undone("SEEN: none", "see -1");
        undone("SEEN: others", "see -1, see 33, see 37");
        undone("the BOOK: one more", "book 1");
        undone("the BOOK: empty", "book -1");
        undone("the BOOK: another order", "book -1, book 2, book 1");
        undone("the BOOK: others", "book -1, book 0, book 0");
        undone("a CUSTOMER more", "customer 5 9 20");
    }

    private static void notOfTheImage() {
        B.takes("T2 THE TEXT is not of THE IMAGE", "feed:pr, image, feed:ice 8", "undo", 0, "count 4 = 7", "counter = 0",
            "told 1 = 8");
        B.takes("T2 TAPES are not of THE IMAGE", "tape 0 2 2, image, item 0 1 8, tape 1 3 1", "undo", 0, "read 0 1 = 8",
            "read 1 0 = 0");
        B.takes("T2 THE TRACE is not of THE IMAGE", ONE + ", act 0 0 1, image, act 0 1 1", "undo", 1, "count 5 = 2",
            "trace 0 = 11");
    }

    private static void act() {
        B.takes("30 act: the least", ONE, "act 0 0 7", 7, "count 5 = 1", "trace 0 = 10", "trace 1 = -1");
        B.takes("30 act: the largest", ONE, "act 0 2 7", 2, "count 5 = 3", "trace 2 = 10", "trace 3 = -1");
        String acted = ONE + ", act 0 2 7";
        for (String none : new String[] {"act 0 -1 7", "act 0 3 7", "act 0 MIN 7", "act 0 MAX 7", "act -1 0 7",
            "act 1 0 7", "act MIN 0 7", "act MAX 0 7", "act 1 3 7"}) {
            B.takes("30 0, and no TRACE then", acted, none, 0, "count 5 = 0", "trace 0 = -1");
        }
        B.takes("30 0, and no TRACE then: nobody there", "", "act 0 0 7", 0, "count 5 = 0");
        B.takes("30 customer: the largest", SIX, "act 5 0 7", 12, "trace 0 = 10");
        B.takes("30 of one who is GONE", ONE + ", set 0 3 1", "act 0 0 7", 7, "trace 0 = 10");
        B.takes("T2 wrapping: x + i", "customer 0 6 50 *2", "act 1 0 MAX", Integer.MIN_VALUE);
        B.takes("T2 wrapping: asks(x) - v", ONE, "act 0 1 MIN", Integer.MAX_VALUE - 5);
        B.takes("T2 wrapping: buys(x) * 2", "customer 0 0 50", "act 0 2 MAX", -2);
        B.takes("T2 wrapping: buys(x) * 2, the least", "customer 0 0 50", "act 0 2 MIN", 0);
        B.takes("T2 wrapping: x * 3", "customer 2 0 50", "act 0 0 MAX", Integer.MAX_VALUE - 2);
        B.takes("T2 wrapping: -asks(x)", "customer 4 0 50", "act 0 0 MIN", Integer.MIN_VALUE);
        B.takes("T2 wrapping: x + 1", "customer 4 0 50", "act 0 1 MAX", Integer.MIN_VALUE ^ 6);
        B.takes("T2 wrapping: x - i", "customer 5 0 50 *2", "act 1 2 MIN", 2 * (Integer.MAX_VALUE * 3 + 1));
    }

    private static void trace() {
        String twelve = "customer 6 3 50, act 0 2 5";
        int[] due = {40, 12, 70, 11, 71, 10, 10, 70, 11, 71, 10, 10};
        for (int i = 0; i < due.length; i++) {
            B.asks("31 the i-th body, as they began", twelve, "trace " + i, due[i]);
        }
        B.asks("33 bodies that ran", twelve, "count 5", 12);
        B.refuses("31 i: behind the last", twelve, "trace 12", NONE);
        B.refuses("31 i: too small", twelve, "trace -1", NONE);
        B.refuses("31 i: the twentieth is none", twelve, "trace 19", NONE);
        B.refuses("31 i: beyond what is kept", twelve, "trace 20", NONE);
        B.refuses("31 i: far too small", twelve, "trace MIN", NONE);
        B.refuses("31 i: far too large", twelve, "trace MAX", NONE);
        B.refuses("31 nothing ran yet", ONE, "trace 0", NONE);
        B.takes("31 the latest act() alone", twelve, "act 0 0 5", 5 ^ 3, "count 5 = 2", "trace 0 = 71", "trace 1 = 10",
            "trace 2 = -1");
    }

    private static void taken() {
        String[] under = {"0", "01", "02", "03", "014", "025", "036"};
        for (int kind = 0; kind < 7; kind++) {
            String one = "customer " + kind + " 0 50";
            for (int k = 0; k < 7; k++) {
                boolean is = under[kind].indexOf('0' + k) >= 0;
                B.asks("32 of KIND k, or one under that", one, "taken 0 " + k, is ? kind : CAST);
            }
            B.refuses("32 k: too small", one, "taken 0 -1", BAD);
            B.refuses("32 k: too large", one, "taken 0 7", BAD);
        }
        B.refuses("32 k: far too small", ONE, "taken 0 MIN", BAD);
        B.refuses("32 k: far too large", ONE, "taken 0 MAX", BAD);
        B.asks("32 customer: the largest", SIX, "taken 5 0", 0);
        B.refuses("32 NOTHING: too small", SIX, "taken -1 0", NOTHING);
        B.refuses("32 NOTHING: too large", SIX, "taken 6 0", NOTHING);
        B.refuses("32 NOTHING: nobody there", "", "taken 0 0", NOTHING);
        B.refuses("32 NOTHING: far too small", SIX, "taken MIN 0", NOTHING);
        B.refuses("32 NOTHING: far too large", SIX, "taken MAX 6", NOTHING);
        B.refuses("32 BAD ahead of NOTHING", ONE, "taken 1 7", BAD);
        B.refuses("32 BAD ahead of NOTHING, too small both", ONE, "taken -1 -1", BAD);
        B.refuses("32 NOTHING ahead of CAST", ONE, "taken 1 6", NOTHING);
    }

    private static void count() {
        String all = SIX + ", counter:price 1, counter:price 2, see 1 *3, book 0 *4, feed:price, act 0 1 1";
        int[] due = {6, 2, 3, 4, 5, 2};
        for (int what = 0; what < 6; what++) {
            B.asks("33 what " + what, all, "count " + what, due[what]);
        }
        B.refuses("33 what: too small", all, "count -1", BAD);
        B.refuses("33 what: too large", all, "count 6", BAD);
        B.refuses("33 what: far too small", all, "count MIN", BAD);
        B.refuses("33 what: far too large", all, "count MAX", BAD);
    }

    public static void main(String[] args) {
        judge();
        image();
        undone();
        notOfTheImage();
        act();
        trace();
        taken();
        count();
        CHECKS.end();
        B.end();
    }
}
