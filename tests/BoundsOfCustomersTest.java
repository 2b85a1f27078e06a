/** The bounds of promises 1 to 5, 8 and 9, and of CUSTOMERS, MORE, ASKS and LETS in the Terms. */
public final class BoundsOfCustomersTest {
    private static final Bounds B = new Bounds("BoundsOfCustomersTest");
    private static final int NONE = -1, BAD = -2, STATE = -3, FULL = -4;
    private static final String ONE = "customer 0 6 50", TOLD = "customer 6 1 20", SIX = "customer 0 6 50 *6";

    private static void newObject() {
        B.asks("1 nobody", "", "count 0", 0);
        B.asks("1 nobody: of", "", "of 0 0", NONE);
        B.asks("1 nobody: GONE", "", "told 3", 0);
        B.asks("1 no COUNTER", "", "count 1", 0);
        B.asks("1 a knife that is off by 2", "", "told 0", 2);
        B.asks("T1 PRICE without a COUNTER", "", "told 1", 5);
        B.asks("T1 LEARN without a COUNTER", "", "told 2", 1);
        B.asks("1 nothing is SEEN", "", "count 2", 0);
        B.asks("1 nobody is in the BOOK", "", "count 3", 0);
        B.asks("1 THE TEXT is empty", "", "count 4", 0);
        B.asks("1 no TRACE", "", "count 5", 0);
        B.takes("1 no IMAGE", "", "undo", STATE);
        for (int tape = 0; tape < 6; tape++) {
            B.refuses("T3 TAPES hold nothing at first", "", "item " + tape + " 0 1", -11);
        }
    }

    private static void kind() {
        B.takes("2 kind: the least", "", "customer 0 6 50", 0, "of 0 0 = 0", "count 0 = 1");
        B.takes("2 kind: the largest", "", "customer 6 6 50", 0, "of 0 0 = 6", "count 0 = 1");
        B.refuses("2 kind: too small", "", "customer -1 6 50", NONE);
        B.refuses("2 kind: too large", "", "customer 7 6 50", NONE);
        B.refuses("2 kind: far too small", "", "customer MIN 6 50", NONE);
        B.refuses("2 kind: far too large", "", "customer MAX 6 50", NONE);
    }

    private static void vAndWants() {
        B.takes("2 v: the least", "", "customer 0 0 50", 0, "of 0 1 = 0");
        B.takes("2 v: the largest", "", "customer 0 9 50", 0, "of 0 1 = 9");
        B.refuses("2 v: too small", "", "customer 0 -1 50", BAD);
        B.refuses("2 v: too large", "", "customer 0 10 50", BAD);
        B.refuses("2 v: far too small", "", "customer 0 MIN 50", BAD);
        B.refuses("2 v: far too large", "", "customer 0 MAX 50", BAD);
        B.takes("2 wants: the least", "", "customer 0 6 10", 0, "of 0 2 = 10");
        B.takes("2 wants: the largest", "", "customer 0 6 99", 0, "of 0 2 = 99");
        B.refuses("2 wants: too small", "", "customer 0 6 9", BAD);
        B.refuses("2 wants: too large", "", "customer 0 6 100", BAD);
        B.refuses("2 wants: far too small", "", "customer 0 6 MIN", BAD);
        B.refuses("2 wants: far too large", "", "customer 0 6 MAX", BAD);
    }

    private static void six() {
        B.takes("2 numbers as they come", "", "customer 1 6 50", 0, "customer 2 6 50 = 1", "customer 3 6 50 = 2",
            "customer 4 6 50 = 3", "customer 5 6 50 = 4", "of 0 0 = 1", "of 4 0 = 5");
        B.takes("2 the sixth", "customer 0 6 50 *5", "customer 6 9 99", 5, "count 0 = 6", "of 5 0 = 6");
        B.refuses("2 FULL: the seventh", SIX, "customer 6 9 99", FULL);
        B.refuses("2 NONE ahead of BAD: v", "", "customer 7 10 50", NONE);
        B.refuses("2 NONE ahead of BAD: wants", "", "customer -1 6 9", NONE);
        B.refuses("2 NONE ahead of FULL", SIX, "customer 7 6 50", NONE);
        B.refuses("2 BAD ahead of FULL: v", SIX, "customer 0 10 50", BAD);
        B.refuses("2 BAD ahead of FULL: wants", SIX, "customer 0 6 100", BAD);
        B.refuses("2 NONE ahead of BAD and FULL", SIX, "customer -1 -1 9", NONE);
    }

    private static void atFirst() {
        String[] told = {"KIND", "v", "WANTS", "TRUST", "OVER", "NOES", "VISITS", "GONE", "MORE", "ASKS", "LETS",
            "whether it would say no"};
        int[] due = {4, 9, 50, 3, 0, 0, 0, 0, 5, 48, 4, 1};
        for (int what = 0; what < 12; what++) {
            B.asks("T1 at first, 3: " + told[what], "customer 4 9 50", "of 0 " + what, due[what]);
        }
        for (int part = 0; part < 4; part++) {
            B.takes("T1 ROW: 0 at first", TOLD, "row 0 " + part + " 9", 0);
        }
    }

    private static void of() {
        B.asks("3 what: the least", ONE, "of 0 0", 0);
        B.asks("3 what: the largest", ONE, "of 0 11", 0);
        B.refuses("3 what: too small", ONE, "of 0 -1", NONE);
        B.refuses("3 what: too large", ONE, "of 0 12", NONE);
        B.refuses("3 what: far too small", ONE, "of 0 MIN", NONE);
        B.refuses("3 what: far too large", ONE, "of 0 MAX", NONE);
        B.asks("3 customer: the largest", SIX, "of 5 2", 50);
        B.refuses("3 customer: too small", SIX, "of -1 2", NONE);
        B.refuses("3 customer: too large", SIX, "of 6 2", NONE);
        B.refuses("3 customer: not there yet", ONE, "of 1 2", NONE);
        B.refuses("3 customer: far too small", SIX, "of MIN 2", NONE);
        B.refuses("3 customer: far too large", SIX, "of MAX 2", NONE);
        B.asks("3 GONE", ONE + ", set 0 3 1", "of 0 7", 1);
    }

    private static void more() {
        String none = ONE + ", set 0 1 0, counter:less 1 c=0, knife ";
        B.asks("T1 MORE is 0 at least: one below", none + "0", "of 0 8", 0);
        B.asks("T1 MORE is 0 at least: just 0", none + "1", "of 0 8", 0);
        B.asks("T1 MORE is 0 at least: one above", none + "2", "of 0 8", 1);
        B.asks("T1 MORE: OFF and TRUST at their most", ONE + ", knife 30, set 0 1 20", "of 0 8", 50);
        B.asks("T1 MORE: OFF and TRUST at their least", ONE + ", knife 0, set 0 1 0", "of 0 8", 0);
        B.asks("T1 MORE: all more, less all less, and then 0 at least",
            ONE + ", counter:less 99 c=0;more 99 c=0", "of 0 8", 5);
        B.asks("T1 MORE: eight clauses of 99", ONE + ", knife 30, set 0 1 20, counter:"
            + "more 99 c<9" + ";more 99 c<9".repeat(7), "of 0 8", 842);
        B.asks("T1 MORE: eight clauses of 99 less", ONE + ", knife 30, set 0 1 20, counter:"
            + "less 99 c<9" + ";less 99 c<9".repeat(7), "of 0 8", 0);
    }

    /** What one ASKS with this OVER. */
    private static void asksWith(int kind, int wants, int over, int due) {
        B.asks("T1 ASKS of kind " + kind, "customer " + kind + " 6 " + wants + ", set 0 2 " + over, "of 0 9", due);
    }

    private static void asks() {
        asksWith(0, 10, 99, 10);
        asksWith(0, 99, 0, 99);
        asksWith(1, 50, 0, 50);
        asksWith(1, 50, 48, 2);
        asksWith(1, 50, 49, 1);
        asksWith(1, 50, 50, 1);
        asksWith(1, 10, 99, 1);
        asksWith(2, 10, 99, 10);
        asksWith(3, 10, 99, 5);
        asksWith(3, 11, 0, 5);
        asksWith(3, 12, 0, 6);
        asksWith(3, 99, 0, 49);
        asksWith(4, 50, 0, 48);
        asksWith(4, 50, 46, 2);
        asksWith(4, 50, 47, 1);
        asksWith(4, 50, 48, 1);
        asksWith(4, 50, 49, 1);
        asksWith(4, 50, 50, 1);
        asksWith(4, 10, 99, 1);
        asksWith(5, 10, 99, 10);
        asksWith(6, 11, 99, 5);
        String told = "customer 6 1 21, row 0 0 1, row 0 1 2, row 0 2 4, row 0 3 9, visit 0 *";
        int[] due = {11, 12, 14, 19, 11, 12, 14, 19, 11};
        for (int visits = 0; visits < due.length; visits++) {
            B.asks("T1 ASKS of TOLD: its ROW at VISITS modulo 4 more", told + visits, "of 0 9", due[visits]);
        }
    }

    /** What one LETS pass; with MORE just that it says yes, with one more it says no. */
    private static void lets(int kind, int v, int over, int due) {
        String one = "customer " + kind + " " + v + " 50, set 0 2 " + over + ", set 0 1 0";
        B.asks("T1 LETS of kind " + kind + " with v " + v, one, "of 0 10", due);
        String most = due < 30 ? one : one + ", counter:more 90 c=0";
        int knife = due < 30 ? due : due - 90;
        B.asks("T1 it says no, if MORE is above LETS: just that", most + ", knife " + knife, "of 0 11", 0);
        B.asks("T1 it says no, if MORE is above LETS: one more", most + ", knife " + (knife + 1), "of 0 11", 1);
    }

    private static void lets() {
        lets(0, 0, 99, 0);
        lets(0, 9, 0, 9);
        lets(1, 0, 99, 0);
        lets(1, 1, 0, 0);
        lets(1, 2, 0, 1);
        lets(1, 9, 99, 4);
        lets(2, 0, 99, 0);
        lets(2, 1, 99, 2);
        lets(2, 9, 99, 18);
        lets(3, 0, 99, 99);
        lets(3, 9, 0, 99);
        lets(4, 0, 0, 0);
        lets(4, 1, 0, 0);
        lets(4, 9, 0, 4);
        lets(4, 9, 3, 1);
        lets(4, 9, 4, 0);
        lets(4, 9, 5, 0);
        lets(4, 9, 99, 0);
        lets(5, 0, 99, 0);
        lets(5, 9, 99, 18);
        lets(6, 0, 99, 99);
        lets(6, 9, 0, 99);
    }

    private static void set(int what, String name, int told, int least, int most, int first) {
        String of = "of 0 " + told + " = ";
        String call = "set 0 " + what + " ";
        B.takes("4 " + name + ": the least", ONE, call + least, first, of + least);
        B.takes("4 " + name + ": the largest", ONE, call + most, first, of + most);
        B.takes("4 what it was", ONE + ", " + call + most, call + least, most, of + least, call + least + " = " + least);
        B.refuses("4 " + name + ": too small", ONE, call + (least - 1), BAD);
        B.refuses("4 " + name + ": too large", ONE, call + (most + 1), BAD);
        B.refuses("4 " + name + ": far too small", ONE, call + "MIN", BAD);
        B.refuses("4 " + name + ": far too large", ONE, call + "MAX", BAD);
        B.refuses("4 NONE (customer) ahead of BAD", ONE, "set 1 " + what + " " + (most + 1), NONE);
    }

    private static void set() {
        set(0, "WANTS", 2, 10, 99, 50);
        set(1, "TRUST", 3, 0, 20, 3);
        set(2, "OVER", 4, 0, 99, 0);
        set(3, "GONE", 7, 0, 1, 0);
        B.refuses("4 what: too small", ONE, "set 0 -1 10", NONE);
        B.refuses("4 what: too large", ONE, "set 0 4 10", NONE);
        B.refuses("4 what: far too small", ONE, "set 0 MIN 10", NONE);
        B.refuses("4 what: far too large", ONE, "set 0 MAX 10", NONE);
        B.refuses("4 NONE (what) ahead of BAD", ONE, "set 0 4 -1", NONE);
        B.takes("4 customer: the largest", SIX, "set 5 0 77", 50, "of 5 2 = 77", "of 4 2 = 50", "of 0 2 = 50");
        B.refuses("4 customer: too small", SIX, "set -1 0 77", NONE);
        B.refuses("4 customer: too large", SIX, "set 6 0 77", NONE);
        B.refuses("4 customer: nobody there", "", "set 0 0 77", NONE);
        B.refuses("4 customer: far too small", SIX, "set MIN 0 77", NONE);
        B.refuses("4 customer: far too large", SIX, "set MAX 0 77", NONE);
        B.takes("4 one thing alone is set", ONE + ", visit 0", "set 0 0 60", 50, "of 0 3 = 4", "of 0 4 = 5",
            "of 0 5 = 0", "of 0 6 = 1", "of 0 7 = 0");
    }

    private static void row() {
        B.takes("5 part: the least, n: the largest", TOLD, "row 0 0 9", 0, "row 0 0 0 = 9", "row 0 0 0 = 0");
        B.takes("5 part: the largest, n: the largest", TOLD, "row 0 3 9", 0, "row 0 3 0 = 9", "row 0 0 0 = 0");
        B.takes("5 n: the least", TOLD + ", row 0 1 5", "row 0 1 0", 5, "row 0 1 0 = 0");
        B.takes("5 each part is one of its own", TOLD + ", row 0 0 1, row 0 1 2, row 0 2 3, row 0 3 4", "row 0 2 9", 3,
            "row 0 0 0 = 1", "row 0 1 0 = 2", "row 0 2 0 = 9", "row 0 3 0 = 4");
        B.takes("5 customer: the largest", SIX.replace("*6", "*5") + ", customer 6 1 20", "row 5 0 4", 0, "of 5 9 = 14");
        B.refuses("5 part: too small", TOLD, "row 0 -1 5", NONE);
        B.refuses("5 part: too large", TOLD, "row 0 4 5", NONE);
        B.refuses("5 part: far too small", TOLD, "row 0 MIN 5", NONE);
        B.refuses("5 part: far too large", TOLD, "row 0 MAX 5", NONE);
        B.refuses("5 n: too small", TOLD, "row 0 0 -1", BAD);
        B.refuses("5 n: too large", TOLD, "row 0 0 10", BAD);
        B.refuses("5 n: far too small", TOLD, "row 0 0 MIN", BAD);
        B.refuses("5 n: far too large", TOLD, "row 0 0 MAX", BAD);
        B.refuses("5 customer: too small", TOLD, "row -1 0 5", NONE);
        B.refuses("5 customer: too large", TOLD, "row 1 0 5", NONE);
        B.refuses("5 customer: nobody there", "", "row 0 0 5", NONE);
        for (int kind = 0; kind < 6; kind++) {
            B.refuses("5 STATE: another KIND", "customer " + kind + " 1 20", "row 0 0 5", STATE);
        }
        B.refuses("5 NONE (customer) ahead of BAD", TOLD, "row 1 0 10", NONE);
        B.refuses("5 NONE (part) ahead of BAD", TOLD, "row 0 4 10", NONE);
        B.refuses("5 NONE (part) ahead of STATE", ONE, "row 0 4 5", NONE);
        B.refuses("5 BAD ahead of STATE", ONE, "row 0 0 10", BAD);
        B.refuses("5 NONE ahead of BAD and STATE", ONE, "row 0 -1 -1", NONE);
    }

    private static void knifeAndTold() {
        B.takes("8 n: the least", "", "knife 0", 2, "told 0 = 0");
        B.takes("8 n: the largest", "", "knife 30", 2, "told 0 = 30");
        B.takes("8 what it was", "knife 30", "knife 1", 30, "told 0 = 1", "knife 1 = 1");
        B.refuses("8 n: too small", ONE, "knife -1", BAD);
        B.refuses("8 n: too large", ONE, "knife 31", BAD);
        B.refuses("8 n: far too small", ONE, "knife MIN", BAD);
        B.refuses("8 n: far too large", ONE, "knife MAX", BAD);
        String told = SIX + ", knife 7, counter:price 8;learn 9, set 0 3 1, set 5 3 1";
        int[] due = {7, 8, 9, 33};
        for (int what = 0; what < 4; what++) {
            B.asks("9 what " + what, told, "told " + what, due[what]);
        }
        B.asks("9 who is GONE: all six", SIX + ", set 0 3 1, set 1 3 1, set 2 3 1, set 3 3 1, set 4 3 1, set 5 3 1",
            "told 3", 63);
        B.asks("9 who is GONE: none of six", SIX, "told 3", 0);
        B.refuses("9 what: too small", told, "told -1", NONE);
        B.refuses("9 what: too large", told, "told 4", NONE);
        B.refuses("9 what: far too small", told, "told MIN", NONE);
        B.refuses("9 what: far too large", told, "told MAX", NONE);
    }

    public static void main(String[] args) {
        newObject();
        kind();
        vAndWants();
        six();
        atFirst();
        of();
        more();
        asks();
        lets();
        set();
        row();
        knifeAndTold();
        B.end();
    }
}
