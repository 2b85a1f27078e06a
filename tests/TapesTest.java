/** Promises 34 to 37: tape, item, read, shift. */
public final class TapesTest {
    private static final Checks CHECKS = new Checks("TapesTest");
    private static final int NOTHING = -11, CAST = -12, PLACE = -13, SIZE = -14;

    private static void tape() {
        LittleMore x = new LittleMore();
        CHECKS.due("tape(-1, 5, 61)", x.tape(-1, 5, 61), LittleMore.NONE);
        CHECKS.due("tape(6, 5, 61)", x.tape(6, 5, 61), LittleMore.NONE);
        CHECKS.due("tape(0, 5, 1)", x.tape(0, 5, 1), LittleMore.BAD);
        CHECKS.due("tape(0, -2, 1)", x.tape(0, -2, 1), LittleMore.BAD);
        CHECKS.due("tape(0, 5, -1)", x.tape(0, 5, -1), LittleMore.BAD);
        CHECKS.due("tape(0, 0, 61)", x.tape(0, 0, 61), LittleMore.BAD);
        CHECKS.due("tape(0, 0, -1)", x.tape(0, 0, -1), SIZE);
        CHECKS.due("tape(0, 4, MIN)", x.tape(0, 4, Integer.MIN_VALUE), SIZE);
        CHECKS.due("item behind refusals", x.item(0, 0, 1), NOTHING);
        CHECKS.due("tape(0, 0, 60)", x.tape(0, 0, 60), 1);
        CHECKS.due("read(0, 59)", x.read(0, 59), 0);
        CHECKS.due("read(0, 60)", x.read(0, 60), LittleMore.NO);
        x.item(0, 3, 7);
        CHECKS.due("tape(0, 0, -1) on a row", x.tape(0, 0, -1), SIZE);
        CHECKS.due("the row stays", x.read(0, 3), 7);
        CHECKS.due("tape(0, 0, 4)", x.tape(0, 0, 4), 1);
        CHECKS.due("all are 0", x.read(0, 3), 0);
        CHECKS.due("read(0, 4)", x.read(0, 4), LittleMore.NO);
        CHECKS.due("tape(0, -1, 61)", x.tape(0, -1, 61), 1);
        CHECKS.due("read of nothing", x.read(0, 0), LittleMore.NO);
        CHECKS.due("tape(0, -1, -9)", x.tape(0, -1, -9), 1);
        CHECKS.due("tape(5, 3, 0)", x.tape(5, 3, 0), 1);
        CHECKS.due("item of an empty row", x.item(5, 0, 1), PLACE);
        CHECKS.due("read of an empty row", x.read(5, 0), LittleMore.NO);
    }

    private static void item(int sort, long v, long due) {
        LittleMore x = new LittleMore();
        x.tape(2, sort, 3);
        CHECKS.due("item(2, 2, " + v + ")", x.item(2, 2, v), 1);
        CHECKS.due("read(2, 2) of sort " + sort + " behind " + v, x.read(2, 2), due);
        CHECKS.due("read(2, 1)", x.read(2, 1), 0);
    }

    private static void items() {
        item(0, 127, 127);
        item(0, 128, -128);
        item(0, -129, 127);
        item(0, 256, 0);
        item(1, 32767, 32767);
        item(1, 32768, -32768);
        item(1, 65536 + 5, 5);
        item(2, Integer.MAX_VALUE, Integer.MAX_VALUE);
        item(2, Integer.MAX_VALUE + 1L, Integer.MIN_VALUE);
        item(2, Long.MIN_VALUE, 0);
        item(3, Long.MAX_VALUE, Long.MAX_VALUE);
        item(3, Long.MIN_VALUE, Long.MIN_VALUE);
        item(4, 0, 0);
        item(4, 1, 1);
        item(4, -2, 1);
        item(4, Long.MIN_VALUE, 1);
        item(4, 1L << 32, 1);
        LittleMore x = new LittleMore();
        x.tape(1, 0, 3);
        CHECKS.due("item(-1, 0, 1)", x.item(-1, 0, 1), LittleMore.NONE);
        CHECKS.due("item(6, 0, 1)", x.item(6, 0, 1), LittleMore.NONE);
        CHECKS.due("item(0, -1, 1)", x.item(0, -1, 1), NOTHING);
        CHECKS.due("item(1, -1, 1)", x.item(1, -1, 1), PLACE);
        CHECKS.due("item(1, 3, 1)", x.item(1, 3, 1), PLACE);
        CHECKS.due("read(-1, 0)", x.read(-1, 0), LittleMore.NO);
        CHECKS.due("read(6, 0)", x.read(6, 0), LittleMore.NO);
        CHECKS.due("read(0, 0)", x.read(0, 0), LittleMore.NO);
        CHECKS.due("read(1, -1)", x.read(1, -1), LittleMore.NO);
        CHECKS.due("read(1, 3)", x.read(1, 3), LittleMore.NO);
    }

    private static LittleMore told() {
        LittleMore x = new LittleMore();
        x.tape(0, 2, 5);
        x.tape(1, 2, 3);
        x.tape(2, 1, 5);
        for (int i = 0; i < 5; i++) {
            x.item(0, i, 10 + i);
        }
        return x;
    }

    private static void row(LittleMore x, int tape, int... due) {
        for (int i = 0; i < due.length; i++) {
            CHECKS.due("read(" + tape + ", " + i + ")", x.read(tape, i), due[i]);
        }
    }

    private static void shift() {
        LittleMore x = told();
        CHECKS.due("shift(0, 2, 1, 0, 3)", x.shift(0, 2, 1, 0, 3), 3);
        row(x, 1, 12, 13, 14);
        row(x, 0, 10, 11, 12, 13, 14);
        x = told();
        CHECKS.due("shift(0, 0, 0, 1, 4)", x.shift(0, 0, 0, 1, 4), 4);
        row(x, 0, 10, 10, 11, 12, 13);
        x = told();
        CHECKS.due("shift(0, 1, 0, 0, 4)", x.shift(0, 1, 0, 0, 4), 4);
        row(x, 0, 11, 12, 13, 14, 14);
        CHECKS.due("shift of none at the ends", x.shift(0, 5, 1, 3, 0), 0);
        row(x, 0, 11, 12, 13, 14, 14);
        row(x, 1, 0, 0, 0);
    }

    private static void place(int i, int j, int n) {
        LittleMore x = told();
        CHECKS.due("shift(0, " + i + ", 1, " + j + ", " + n + ")", x.shift(0, i, 1, j, n), PLACE);
        row(x, 1, 0, 0, 0);
    }

    private static void refusals() {
        LittleMore x = told();
        CHECKS.due("shift(-1, 0, 3, 0, 0)", x.shift(-1, 0, 3, 0, 0), LittleMore.NONE);
        CHECKS.due("shift(3, 0, 6, 0, 0)", x.shift(3, 0, 6, 0, 0), LittleMore.NONE);
        CHECKS.due("shift(3, 0, 0, 0, 0)", x.shift(3, 0, 0, 0, 0), NOTHING);
        CHECKS.due("shift(0, 0, 3, 0, -1)", x.shift(0, 0, 3, 0, -1), NOTHING);
        CHECKS.due("shift(0, 0, 2, 0, -1)", x.shift(0, 0, 2, 0, -1), CAST);
        CHECKS.due("shift(2, 9, 0, 0, 1)", x.shift(2, 9, 0, 0, 1), CAST);
        place(0, 0, -1);
        place(-1, 0, 1);
        place(0, -1, 1);
        place(0, 0, 4);
        place(3, 0, 3);
        place(0, 1, 3);
        place(6, 0, 0);
        place(0, 4, 0);
        place(Integer.MAX_VALUE, 0, Integer.MAX_VALUE);
        place(Integer.MAX_VALUE, 0, 1);
        place(0, Integer.MAX_VALUE, 1);
        place(0, 0, Integer.MIN_VALUE);
        place(1, 1, Integer.MAX_VALUE);
    }

    public static void main(String[] args) {
        tape();
        items();
        shift();
        refusals();
        CHECKS.end();
    }
}
