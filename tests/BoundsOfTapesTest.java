/** The bounds of promises 34 to 37: tape, item, read, shift. */
public final class BoundsOfTapesTest {
    private static final Bounds B = new Bounds("BoundsOfTapesTest");
    private static final int NONE = -1, BAD = -2, NOTHING = -11, CAST = -12, PLACE = -13, SIZE = -14;
    private static final long NO = Long.MIN_VALUE;
    private static final String ROW = "tape 0 2 3, item 0 0 7, item 0 1 8, item 0 2 9";

    private static void tape() {
        B.takes("34 tape: the least", "", "tape 0 2 3", 1, "read 0 2 = 0", "read 0 3 = LMIN", "read 1 0 = LMIN");
        B.takes("34 tape: the largest", "", "tape 5 2 3", 1, "read 5 2 = 0", "read 5 3 = LMIN", "read 4 0 = LMIN");
        B.refuses("34 tape: too small", ROW, "tape -1 2 3", NONE);
        B.refuses("34 tape: too large", ROW, "tape 6 2 3", NONE);
        B.refuses("34 tape: far too small", ROW, "tape MIN 2 3", NONE);
        B.refuses("34 tape: far too large", ROW, "tape MAX 2 3", NONE);
        B.takes("34 sort: the least is nothing", ROW, "tape 0 -1 3", 1, "read 0 0 = LMIN", "item 0 0 1 = -11");
        B.takes("34 sort: 0, bytes", ROW, "tape 0 0 3", 1, "read 0 0 = 0", "item 0 0 128 = 1", "read 0 0 = -128");
        B.takes("34 sort: the largest, booleans", ROW, "tape 0 4 3", 1, "read 0 0 = 0", "item 0 0 128 = 1", "read 0 0 = 1");
        B.refuses("34 sort: too small", ROW, "tape 0 -2 3", BAD);
        B.refuses("34 sort: too large", ROW, "tape 0 5 3", BAD);
        B.refuses("34 sort: far too small", ROW, "tape 0 MIN 3", BAD);
        B.refuses("34 sort: far too large", ROW, "tape 0 MAX 3", BAD);
        for (int sort = 0; sort < 5; sort++) {
            String call = "tape 0 " + sort + " ";
            B.takes("34 n: the least", ROW, call + "0", 1, "read 0 0 = LMIN", "item 0 0 1 = -13");
            B.takes("34 n: one", ROW, call + "1", 1, "read 0 0 = 0", "read 0 1 = LMIN");
            B.takes("34 n: the largest", ROW, call + "60", 1, "read 0 0 = 0", "read 0 59 = 0", "read 0 60 = LMIN",
                "item 0 59 1 = 1", "read 0 59 = 1");
            B.refuses("34 SIZE: n is below 0", ROW, call + "-1", SIZE);
            B.refuses("34 SIZE: n is far below 0", ROW, call + "MIN", SIZE);
            B.refuses("34 BAD: n is above 60", ROW, call + "61", BAD);
            B.refuses("34 BAD: n is far above 60", ROW, call + "MAX", BAD);
        }
        B.takes("34 sort -1: n does not matter, below 0", ROW, "tape 0 -1 -1", 1, "item 0 0 1 = -11");
        B.takes("34 sort -1: n does not matter, above 60", ROW, "tape 0 -1 61", 1, "item 0 0 1 = -11");
        B.takes("34 sort -1: n does not matter, MIN", ROW, "tape 0 -1 MIN", 1, "item 0 0 1 = -11");
        B.takes("34 sort -1: n does not matter, MAX", ROW, "tape 0 -1 MAX", 1, "item 0 0 1 = -11");
        B.takes("34 all 0 again", ROW, "tape 0 2 3", 1, "read 0 0 = 0", "read 0 1 = 0", "read 0 2 = 0");
        B.takes("34 all 0 behind nothing", ROW + ", tape 0 -1 0", "tape 0 3 3", 1, "read 0 0 = 0", "read 0 2 = 0");
        B.takes("34 all 0, longer than it was", ROW + ", tape 0 2 1", "tape 0 2 3", 1, "read 0 1 = 0", "read 0 2 = 0");
        B.refuses("34 NONE ahead of BAD: sort", ROW, "tape 6 5 3", NONE);
        B.refuses("34 NONE ahead of BAD: n", ROW, "tape 6 2 61", NONE);
        B.refuses("34 NONE ahead of SIZE", ROW, "tape -1 2 -1", NONE);
        B.refuses("34 BAD (sort) ahead of SIZE", ROW, "tape 0 5 -1", BAD);
        B.refuses("34 BAD (sort too small) ahead of SIZE", ROW, "tape 0 -2 -1", BAD);
    }

    private static void becomes(String sort, int number, long v, long due) {
        B.takes("35 " + sort, "tape 3 " + number + " 3", "item 3 1 " + v, 1, "read 3 1 = " + due, "read 3 0 = 0",
            "read 3 2 = 0");
    }

    private static void items() {
        long[] v = {0, 1, -1, 127, 128, -128, -129, 255, 256, 32767, 32768, -32768, -32769, 65535, 65536,
            Integer.MAX_VALUE, Integer.MAX_VALUE + 1L, Integer.MIN_VALUE, Integer.MIN_VALUE - 1L, 4294967295L,
            4294967296L, Long.MAX_VALUE, Long.MIN_VALUE};
        for (long n : v) {
            becomes("bytes", 0, n, (byte) n);
            becomes("shorts", 1, n, (short) n);
            becomes("ints", 2, n, (int) n);
            becomes("longs", 3, n, n);
            becomes("booleans", 4, n, n == 0 ? 0 : 1);
        }
    }

    private static void item() {
        B.takes("35 i: the least", ROW, "item 0 0 5", 1, "read 0 0 = 5", "read 0 1 = 8");
        B.takes("35 i: the largest", ROW, "item 0 2 5", 1, "read 0 2 = 5", "read 0 1 = 8");
        B.refuses("35 i: too small", ROW, "item 0 -1 5", PLACE);
        B.refuses("35 i: too large", ROW, "item 0 3 5", PLACE);
        B.refuses("35 i: far too small", ROW, "item 0 MIN 5", PLACE);
        B.refuses("35 i: far too large", ROW, "item 0 MAX 5", PLACE);
        B.refuses("35 i: of an empty row", "tape 0 2 0", "item 0 0 5", PLACE);
        B.refuses("35 NOTHING", ROW, "item 1 0 5", NOTHING);
        B.refuses("35 NOTHING any more", ROW + ", tape 0 -1 0", "item 0 0 5", NOTHING);
        B.refuses("35 NOTHING ahead of PLACE", ROW, "item 1 -1 5", NOTHING);
        B.takes("35 tape: the largest", "tape 5 2 1", "item 5 0 5", 1, "read 5 0 = 5");
        B.refuses("35 tape: too small", ROW, "item -1 0 5", NONE);
        B.refuses("35 tape: too large", ROW, "item 6 0 5", NONE);
        B.refuses("35 tape: far too small", ROW, "item MIN 0 5", NONE);
        B.refuses("35 tape: far too large", ROW, "item MAX 0 5", NONE);
        B.refuses("35 NONE ahead of PLACE", ROW, "item 6 -1 5", NONE);
    }

    private static void read() {
        B.asks("36 i: the least", ROW, "read 0 0", 7);
        B.asks("36 i: the largest", ROW, "read 0 2", 9);
        B.refuses("36 no such place: too small", ROW, "read 0 -1", NO);
        B.refuses("36 no such place: too large", ROW, "read 0 3", NO);
        B.refuses("36 no such place: far too small", ROW, "read 0 MIN", NO);
        B.refuses("36 no such place: far too large", ROW, "read 0 MAX", NO);
        B.refuses("36 no such place: an empty row", "tape 0 2 0", "read 0 0", NO);
        B.refuses("36 no such place any more: a shorter row", ROW + ", tape 0 2 2", "read 0 2", NO);
        B.refuses("36 nothing there", ROW, "read 1 0", NO);
        B.refuses("36 nothing there any more", ROW + ", tape 0 -1 3", "read 0 0", NO);
        B.asks("36 tape: the largest", "tape 5 2 1, item 5 0 6", "read 5 0", 6);
        B.refuses("36 no such TAPE: too small", ROW, "read -1 0", NO);
        B.refuses("36 no such TAPE: too large", ROW, "read 6 0", NO);
        B.refuses("36 no such TAPE: far too small", ROW, "read MIN 0", NO);
        B.refuses("36 no such TAPE: far too large", ROW, "read MAX 0", NO);
    }

    private static void shift() {
        String two = ROW + ", tape 5 2 4";
        B.takes("37 all", two, "shift 0 0 5 0 3", 3, "read 5 0 = 7", "read 5 1 = 8", "read 5 2 = 9", "read 5 3 = 0",
            "read 0 0 = 7", "read 0 2 = 9");
        B.takes("37 all, to the other's end", two, "shift 0 0 5 1 3", 3, "read 5 0 = 0", "read 5 1 = 7", "read 5 3 = 9");
        B.takes("37 the last alone", two, "shift 0 2 5 3 1", 1, "read 5 2 = 0", "read 5 3 = 9");
        B.asks("37 n: 0", two, "shift 0 0 5 0 0", 0);
        B.asks("37 n: 0, at both ends", two, "shift 0 3 5 4 0", 0);
        B.asks("37 n: 0, empty rows", "tape 0 2 0, tape 1 2 0", "shift 0 0 1 0 0", 0);
        B.takes("37 n: 60", "tape 0 3 60, tape 1 3 60, item 0 0 4, item 0 59 5", "shift 0 0 1 0 60", 60, "read 1 0 = 4",
            "read 1 59 = 5");
        B.takes("37 the same, upwards, as they all were before", ROW, "shift 0 0 0 1 2", 2, "read 0 0 = 7",
            "read 0 1 = 7", "read 0 2 = 8");
        B.takes("37 the same, downwards, as they all were before", ROW, "shift 0 1 0 0 2", 2, "read 0 0 = 8",
            "read 0 1 = 9", "read 0 2 = 9");
        B.asks("37 the same, onto itself", ROW, "shift 0 0 0 0 3", 3);
        for (int sort = 0; sort < 5; sort++) {
            B.takes("37 of alike sorts", "tape 0 " + sort + " 1, item 0 0 1, tape 1 " + sort + " 1", "shift 0 0 1 0 1", 1,
                "read 1 0 = 1");
            for (int other = 0; other < 5; other++) {
                if (other != sort) {
                    B.refuses("37 CAST: of unlike sorts", "tape 0 " + sort + " 1, item 0 0 1, tape 1 " + other + " 1",
                        "shift 0 0 1 0 1", CAST);
                }
            }
        }
    }

    private static void shiftRefused() {
        String two = ROW + ", tape 5 2 4, item 5 0 1, tape 4 3 9";
        String[] places = {"0 0 5 0 -1", "0 -1 5 0 1", "0 0 5 -1 1", "0 -1 5 0 0", "0 0 5 -1 0", "0 0 5 0 4", "0 1 5 0 3",
            "0 3 5 0 1", "0 4 5 0 0", "0 0 5 2 3", "0 0 5 4 1", "0 0 5 5 0", "5 0 0 1 3", "5 0 0 0 4", "0 0 0 1 3",
            "0 1 0 0 3", "0 0 5 0 MIN", "0 MIN 5 0 1", "0 0 5 MIN 1", "0 MAX 5 0 1", "0 0 5 MAX 1", "0 0 5 0 MAX",
            "0 MAX 5 MAX MAX", "0 1 5 1 MAX", "0 MIN 5 MIN MIN", "0 MAX 5 0 MIN"};
        for (String place : places) {
            B.refuses("37 PLACE", two, "shift " + place, PLACE);
        }
        B.refuses("37 PLACE: of an empty row", "tape 0 2 0, tape 1 2 1", "shift 0 0 1 0 1", PLACE);
        B.refuses("37 PLACE: to an empty row", "tape 0 2 0, tape 1 2 1", "shift 1 0 0 0 1", PLACE);
        B.refuses("37 NONE: the one too small", two, "shift -1 0 5 0 1", NONE);
        B.refuses("37 NONE: the one too large", two, "shift 6 0 5 0 1", NONE);
        B.refuses("37 NONE: the other too small", two, "shift 0 0 -1 0 1", NONE);
        B.refuses("37 NONE: the other too large", two, "shift 0 0 6 0 1", NONE);
        B.refuses("37 NONE: far too small", two, "shift MIN 0 MIN 0 1", NONE);
        B.refuses("37 NONE: far too large", two, "shift 0 0 MAX 0 1", NONE);
        B.refuses("37 NOTHING: the one", two, "shift 1 0 5 0 1", NOTHING);
        B.refuses("37 NOTHING: the other", two, "shift 0 0 1 0 1", NOTHING);
        B.refuses("37 NOTHING: both", two, "shift 1 0 2 0 0", NOTHING);
        B.refuses("37 NOTHING: the same", two, "shift 1 0 1 0 0", NOTHING);
        B.refuses("37 NONE ahead of NOTHING", two, "shift 1 0 6 0 1", NONE);
        B.refuses("37 NONE ahead of NOTHING, the one", two, "shift -1 0 1 0 1", NONE);
        B.refuses("37 NOTHING ahead of PLACE", two, "shift 0 9 1 9 -1", NOTHING);
        B.refuses("37 CAST ahead of PLACE", two, "shift 0 9 4 9 -1", CAST);
        B.refuses("37 NONE ahead of PLACE", two, "shift 6 9 0 9 -1", NONE);
    }

    public static void main(String[] args) {
        tape();
        items();
        item();
        read();
        shift();
        shiftRefused();
        B.end();
    }
}
