/**
 * All that can be found out about an object, a line each: first by what is only asked, then by calls that change it
 * (what a text goes on to be, which row a tape is, who is in the BOOK, what the IMAGE keeps). So two objects that are
 * alike in all must give the same lines; those looked at are spent behind it.
 */
final class Probe {
    private final LittleMore x;
    private final StringBuilder lines = new StringBuilder();

    private Probe(LittleMore x) {
        this.x = x;
    }

    static String look(LittleMore x) {
        Probe p = new Probe(x);
        p.shop("");
        p.traceAndTapes();
        p.text();
        p.book();
        p.rows();
        p.line("undo()", x.undo());
        p.shop("behind undo(): ");
        p.rows();
        return p.lines.toString();
    }

    private void line(String what, long is) {
        lines.append(what).append(" = ").append(is).append('\n');
    }

    private void shop(String when) {
        for (int what = 0; what < 5; what++) {
            line(when + "count(" + what + ")", x.count(what));
        }
        for (int c = 0; c < 6; c++) {
            int shown = c < x.count(0) ? 12 : 1;
            for (int what = 0; what < shown; what++) {
                line(when + "of(" + c + ", " + what + ")", x.of(c, what));
            }
            line(when + "offs(" + c + ", 0)", x.offs(c, 0));
            line(when + "offs(" + c + ", 1)", x.offs(c, 1));
        }
        for (int what = 0; what < 4; what++) {
            line(when + "told(" + what + ")", x.told(what));
        }
        line(when + "who()", x.who());
        line(when + "looked()", x.looked());
    }

    private void traceAndTapes() {
        line("count(5)", x.count(5));
        for (int i = 0; i < 13; i++) {
            line("trace(" + i + ")", x.trace(i));
        }
        for (int tape = 0; tape < 6; tape++) {
            for (int i = 0; i == 0 || i < 61 && x.read(tape, i - 1) != LittleMore.NO; i++) {
                line("read(" + tape + ", " + i + ")", x.read(tape, i));
            }
            line("judge(" + tape + ", 0)", x.judge(tape, 0));
            line("item(" + tape + ", 0, ..)", x.item(tape, 0, 0x123456789ABCDEF0L));
            line("read(" + tape + ", 0) behind item", x.read(tape, 0));
            for (int other = 0; other < tape; other++) {
                line("shift(" + tape + ", 0, " + other + ", 0, 0)", x.shift(tape, 0, other, 0, 0));
            }
        }
    }

    private void text() {
        line("counter()", x.counter());
        for (int what = 1; what < 3; what++) {
            line("behind counter(): told(" + what + ")", x.told(what));
        }
        for (int c = 0; c < x.count(0); c++) {
            line("behind counter(): of(" + c + ", 8)", x.of(c, 8));
        }
    }

    /** Those who say no to a knife that is far off, one behind the other: who looked() names, is GONE then. */
    private void book() {
        x.knife(30);
        for (int k = 0; k < 6; k++) {
            int first = x.looked();
            line("looked() with a knife off by 30, the " + k + ". time", first);
            if (first >= 0) {
                x.set(first, 3, 1);
            }
        }
    }

    private void rows() {
        for (int c = 0; c < x.count(0); c++) {
            for (int part = 0; part < 4; part++) {
                line("row(" + c + ", " + part + ", 0)", x.row(c, part, 0));
            }
        }
    }
}
