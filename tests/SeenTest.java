/** Promises 20 to 26: see, who, offs, odds, mean, book, looked. */
public final class SeenTest {
    private static final Checks CHECKS = new Checks("SeenTest");

    private static void see() {
        LittleMore x = new LittleMore();
        CHECKS.due("see(-2)", x.see(-2), LittleMore.BAD);
        CHECKS.due("see(1000)", x.see(1000), LittleMore.BAD);
        CHECKS.due("see(0)", x.see(0), 1);
        CHECKS.due("see(999)", x.see(999), 2);
        CHECKS.due("see(5)", x.see(5), 3);
        CHECKS.due("see(5) again", x.see(5), 4);
        CHECKS.due("see(5), full", x.see(5), LittleMore.FULL);
        CHECKS.due("see(1000), full", x.see(1000), LittleMore.BAD);
        CHECKS.due("count(2)", x.count(2), 4);
        CHECKS.due("see(-1)", x.see(-1), 0);
        CHECKS.due("count(2), none", x.count(2), 0);
        CHECKS.due("see(-1) with none", x.see(-1), 0);
        CHECKS.due("see(7)", x.see(7), 1);
    }

    private static void who() {
        CHECKS.due("who() with none", new LittleMore().who(), 0);
        // Cuts: 55, 56, 57, 55; 55, 53; 55 (30 asked for), 26.
        LittleMore x = Checks.shop(0, 6, 50, 0, 0, 50, 3, 0, 99);
        CHECKS.due("who() with nothing SEEN", x.who(), 7);
        x.set(2, 3, 1);
        CHECKS.due("who() with nothing SEEN and one GONE", x.who(), 7);
        x.see(55);
        CHECKS.due("who() by 55", x.who(), 3);
        x.see(56);
        CHECKS.due("who() by 55, 56", x.who(), 1);
        x.see(57);
        x.see(55);
        CHECKS.due("who() by 55, 56, 57, 55", x.who(), 1);
        x.see(-1);
        x.see(54);
        CHECKS.due("who() by 54: the one is GONE", x.who(), 0);
        x.set(2, 3, 0);
        CHECKS.due("who() by 54", x.who(), 4);
        x.see(55);
        CHECKS.due("who() by 54, 55", x.who(), 4);
        x.see(53);
        CHECKS.due("who() by 54, 55, 53", x.who(), 0);
        // One who leaves cuts 25, 23, 22 and does not come again, however its next cut would be: 22.
        LittleMore leaving = Checks.shop(5, 0, 20);
        leaving.see(25);
        leaving.see(23);
        leaving.see(22);
        CHECKS.due("who() ahead of its going", leaving.who(), 1);
        leaving.see(22);
        CHECKS.due("who() behind its going", leaving.who(), 0);
    }

    private static void offs(LittleMore x, int customer, int many, int least) {
        CHECKS.due("offs(" + customer + ", 0)", x.offs(customer, 0), many);
        CHECKS.due("offs(" + customer + ", 1)", x.offs(customer, 1), least);
    }

    private static void offs() {
        LittleMore x = Checks.shop(0, 6, 50, 3, 0, 20);
        offs(x, 0, 31, 0);
        x.see(55);
        offs(x, 0, 1, 2);
        offs(x, 1, 0, -5);
        x.see(56);
        offs(x, 0, 1, 2);
        x.see(58);
        offs(x, 0, 0, -5);
        x.see(-1);
        x.see(53);
        offs(x, 0, 1, 0);
        x.see(-1);
        x.see(83);
        offs(x, 0, 1, 30);
        x.see(-1);
        x.see(84);
        offs(x, 0, 0, -5);
        // MORE is 0 with OFF 0 to 7.
        Checks.counter(x, "less 10 d=0");
        x.see(-1);
        x.see(50);
        offs(x, 0, 8, 0);
        x.set(0, 3, 1);
        offs(x, 0, 0, -5);
        x.see(-1);
        offs(x, 0, 31, 0);
        CHECKS.due("told(0) behind offs", x.told(0), 2);
        CHECKS.due("offs(0, 2)", x.offs(0, 2), LittleMore.NONE);
        CHECKS.due("offs(0, -1)", x.offs(0, -1), LittleMore.NONE);
        CHECKS.due("offs(2, 0)", x.offs(2, 0), LittleMore.NONE);
        CHECKS.due("offs(-1, 0)", x.offs(-1, 0), LittleMore.NONE);
    }

    private static void part(String call, long above, long below, long dueAbove, long dueBelow) {
        CHECKS.due(call + " above", above, dueAbove);
        CHECKS.due(call + " below", below, dueBelow);
    }

    private static void odds(LittleMore x, int n, long above, long below) {
        part("odds(" + n + ")", x.odds(n, 0), x.odds(n, 1), above, below);
    }

    private static void odds() {
        odds(new LittleMore(), 0, LittleMore.NO, LittleMore.NO);
        // At first the second and the fourth would say no; behind two the first and not the others.
        LittleMore x = Checks.shop(0, 6, 50, 0, 4, 50, 3, 0, 50, 5, 0, 20);
        odds(x, 0, 1, 2);
        odds(x, 1, 1, 4);
        odds(x, 2, 1, 2);
        // The fourth is GONE, the second's MORE is 5.
        odds(x, 3, 1, 3);
        x.set(1, 3, 1);
        odds(x, 3, 0, 1);
        odds(x, 0, 1, 3);
        x.set(0, 3, 1);
        x.set(2, 3, 1);
        odds(x, 0, 1, 1);
        odds(x, 3, LittleMore.NO, LittleMore.NO);
        odds(x, -1, LittleMore.NO, LittleMore.NO);
        odds(x, 41, LittleMore.NO, LittleMore.NO);
        CHECKS.due("odds(0, 2)", x.odds(0, 2), LittleMore.NO);
        CHECKS.due("odds(0, -1)", x.odds(0, -1), LittleMore.NO);
        odds(Checks.shop(3, 0, 50), 40, 0, 1);
    }

    private static void mean(LittleMore x, int n, long above, long below) {
        part("mean(" + n + ")", x.mean(n, 0), x.mean(n, 1), above, below);
    }

    private static void mean() {
        mean(new LittleMore(), 1, LittleMore.NO, LittleMore.NO);
        // Too much: 5, 6, 3; of what the child asks for: 5, 6, 7.
        LittleMore x = Checks.shop(0, 6, 50);
        mean(x, 1, 5, 1);
        mean(x, 2, 11, 2);
        mean(x, 3, 14, 3);
        x.customer(3, 0, 40);
        mean(x, 1, 5, 1);
        mean(x, 2, 11, 2);
        mean(x, 3, 16, 3);
        // 2, 1, 1 in three visits, and then none.
        LittleMore leaving = Checks.shop(5, 0, 20);
        mean(leaving, 3, 4, 3);
        mean(leaving, 40, 4, 3);
        leaving.set(0, 3, 1);
        mean(leaving, 40, LittleMore.NO, LittleMore.NO);
        LittleMore nothing = Checks.shop(0, 0, 20, 1, 0, 30);
        Checks.counter(nothing, "less 99 c<9");
        mean(nothing, 9, 0, 1);
        mean(x, 0, LittleMore.NO, LittleMore.NO);
        mean(x, 41, LittleMore.NO, LittleMore.NO);
        CHECKS.due("mean(1, 2)", x.mean(1, 2), LittleMore.NO);
        CHECKS.due("mean(1, -1)", x.mean(1, -1), LittleMore.NO);
    }

    private static void book() {
        LittleMore x = Checks.shop(0, 6, 50, 0, 5, 50);
        CHECKS.due("book(2)", x.book(2), LittleMore.NONE);
        CHECKS.due("book(-2)", x.book(-2), LittleMore.NONE);
        for (int k = 1; k <= 8; k++) {
            CHECKS.due("book", x.book(k % 2), k);
        }
        CHECKS.due("book(0), full", x.book(0), LittleMore.FULL);
        CHECKS.due("book(2), full", x.book(2), LittleMore.NONE);
        CHECKS.due("count(3)", x.count(3), 8);
        CHECKS.due("book(-1)", x.book(-1), 0);
        CHECKS.due("count(3), empty", x.count(3), 0);
        CHECKS.due("book(-1) when empty", x.book(-1), 0);
        CHECKS.due("book(0)", x.book(0), 1);
    }

    private static int looked(LittleMore x, int... customers) {
        x.book(-1);
        for (int c : customers) {
            x.book(c);
        }
        return x.looked();
    }

    private static void looked() {
        // The first says no at its third visit, the second at its second, the third at its first.
        LittleMore x = Checks.shop(0, 6, 50, 0, 5, 50, 0, 4, 50, 5, 0, 20);
        CHECKS.due("looked() with an empty book", looked(x), -5);
        CHECKS.due("looked() by 0, 0", looked(x, 0, 0), -5);
        CHECKS.due("looked() by 0, 0, 0", looked(x, 0, 0, 0), 0);
        CHECKS.due("looked() by 0, 1, 0, 1", looked(x, 0, 1, 0, 1), 1);
        CHECKS.due("looked() by 1, 2, 1", looked(x, 1, 2, 1), 2);
        CHECKS.due("looked() by 3, 2", looked(x, 3, 2), 3);
        x.set(3, 3, 1);
        CHECKS.due("looked() by 3, 2, 3 GONE", looked(x, 3, 2), 2);
        CHECKS.due("looked() by 3, 3 GONE", looked(x, 3), -5);
        x.visit(0);
        CHECKS.due("looked() by 0, 0 behind a visit", looked(x, 0, 0), 0);
        CHECKS.due("VISITS behind looked()", x.of(0, 6), 1);
    }

    public static void main(String[] args) {
        see();
        who();
        offs();
        odds();
        mean();
        book();
        looked();
        CHECKS.end();
    }
}
