/** Promises 27 to 29: judge, image, undo. */
public final class JudgeImageTest {
    private static final Checks CHECKS = new Checks("JudgeImageTest");

    private static void judge(LittleMore x, int tape, int i, int due) {
        CHECKS.due("judge(" + tape + ", " + i + ")", x.judge(tape, i), due);
    }

    private static void judge() {
        LittleMore x = new LittleMore();
        judge(x, 0, 0, -5);
        judge(x, 0, -9, -5);
        judge(x, -1, 0, LittleMore.NONE);
        judge(x, 6, 0, LittleMore.NONE);
        x.tape(1, 1, 5);
        judge(x, 1, 0, -12);
        x.customer(0, 6, 50);
        x.customer(0, 6, 50);
        x.customer(0, 6, 50);
        x.set(1, 1, 0);
        x.set(2, 1, 20);
        judge(x, 0, 0, 100);
        x.tape(0, 0, 5);
        judge(x, 0, 0, 0);
        int[] row = {9, 3, 0, 20, 3};
        for (int i = 0; i < 5; i++) {
            x.item(0, i, row[i]);
        }
        judge(x, 0, 0, 0);
        judge(x, 0, 1, -5);
        judge(x, 0, 2, 0);
        judge(x, 0, 4, 101);
        judge(x, 0, 5, 100);
        judge(x, 0, -1, 100);
        judge(x, 0, Integer.MAX_VALUE, 100);
        judge(x, 0, Integer.MIN_VALUE, 100);
        x.item(0, 2, 1);
        judge(x, 0, 1, 1);
        x.item(0, 2, 256);
        x.item(0, 3, 21);
        judge(x, 0, 1, 2);
        x.tape(0, 0, 2);
        x.item(0, 0, 3);
        judge(x, 0, 0, 102);
        x.tape(0, 0, 0);
        judge(x, 0, 0, 100);
        x.tape(0, 4, 9);
        judge(x, 0, 0, -12);
        judge(x, 0, -1, -12);
    }

    /** All that an image keeps, as text. */
    private static String kept(LittleMore x) {
        StringBuilder s = new StringBuilder();
        for (int c = 0; c < 6; c++) {
            for (int what = 0; what < 12; what++) {
                s.append(x.of(c, what)).append(' ');
            }
            s.append(x.on(c, 4, 0)).append(' ').append(x.offs(c, 0)).append(' ').append(x.offs(c, 1)).append('\n');
        }
        for (int what = 0; what < 4; what++) {
            s.append(x.told(what)).append(' ').append(what == 1 ? "" : "" + x.count(what)).append(' ');
        }
        return s.append(x.who()).append(' ').append(x.looked()).toString();
    }

    private static LittleMore imaged() {
        LittleMore x = Checks.shop(6, 3, 50, 0, 6, 60);
        for (int part = 0; part < 4; part++) {
            x.row(0, part, part + 1);
        }
        Checks.counter(x, "price 7;more 2 c=1;learn 3");
        x.visit(1);
        x.knife(3);
        x.see(x.of(0, 8) + x.of(0, 9));
        x.book(0);
        x.book(1);
        return x;
    }

    private static void undo() {
        LittleMore x = imaged();
        String before = kept(x);
        CHECKS.due("undo() ahead of an image", x.undo(), LittleMore.STATE);
        CHECKS.due("image()", x.image(), 2);
        x.set(0, 0, 99);
        x.set(0, 1, 20);
        x.set(0, 2, 99);
        x.row(0, 2, 9);
        x.saturday();
        x.set(1, 3, 1);
        x.knife(30);
        x.see(9);
        x.book(-1);
        x.book(1);
        Checks.counter(x, "price 0");
        CHECKS.due("a customer more", x.customer(5, 0, 20), 2);
        CHECKS.holds("all is otherwise", !before.equals(kept(x)));
        CHECKS.due("undo()", x.undo(), 2);
        CHECKS.holds("all is as the image", before.equals(kept(x)));
        CHECKS.due("the row is as the image", x.row(0, 2, 3), 3);
        CHECKS.due("the new customer is none", x.of(2, 0), LittleMore.NONE);
        CHECKS.due("the counters that were made stay", x.count(1), 2);
        CHECKS.due("another customer", x.customer(3, 1, 33), 2);
        CHECKS.due("is a new one", x.of(2, 0), 3);
        CHECKS.due("with VISITS 0", x.of(2, 6), 0);
        x.saturday();
        CHECKS.due("undo() once more", x.undo(), 2);
        CHECKS.holds("all is as the image once more", before.equals(kept(x)));
    }

    private static void notKept() {
        LittleMore x = imaged();
        x.tape(0, 0, 3);
        x.act(1, 0, 5);
        Checks.feed(x, "pr");
        x.image();
        x.tape(1, 2, 4);
        x.item(0, 1, 9);
        x.act(1, 1, 5);
        x.feed('i');
        x.undo();
        CHECKS.due("the tapes stay as they are", x.read(0, 1), 9);
        CHECKS.due("a tape stays", x.read(1, 3), 0);
        CHECKS.due("the trace stays", x.count(5), 2);
        CHECKS.due("the text stays", x.count(4), 3);
    }

    private static void anotherImage() {
        LittleMore x = new LittleMore();
        CHECKS.due("image() of none", x.image(), 0);
        Checks.counter(x, "price 9");
        x.customer(6, 1, 20);
        x.row(0, 0, 9);
        CHECKS.due("undo() to none", x.undo(), 0);
        CHECKS.due("no COUNTER holds", x.told(1), 5);
        x.customer(6, 1, 20);
        CHECKS.due("the row of a new one", x.row(0, 0, 1), 0);
        x.undo();
        x.customer(5, 0, 20);
        x.visit(0);
        x.visit(0);
        x.visit(0);
        CHECKS.due("OVER of one who has left", x.of(0, 4), 1);
        x.undo();
        x.customer(1, 4, 30);
        int[] first = {1, 4, 30, 3, 0, 0, 0, 0};
        for (int what = 0; what < first.length; what++) {
            CHECKS.due("a new one in its place: of(0, " + what + ")", x.of(0, what), first[what]);
        }
        x.visit(0);
        CHECKS.due("image() once more", x.image(), 1);
        x.visit(0);
        CHECKS.due("undo() to the newest image", x.undo(), 1);
        CHECKS.due("VISITS", x.of(0, 6), 1);
    }

    public static void main(String[] args) {
        judge();
        undo();
        notKept();
        anotherImage();
        CHECKS.end();
    }
}
