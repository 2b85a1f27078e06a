/** Promises 13 to 19: asked, dare, learnt, nobody, lost, over, nearest. */
public final class BestTest {
    private static final Checks CHECKS = new Checks("BestTest");

    private static void asked(LittleMore x, int customer, int a, int buys) {
        CHECKS.due("asked(" + customer + ", 0)", x.asked(customer, 0), a);
        CHECKS.due("asked(" + customer + ", 1)", x.asked(customer, 1), buys);
    }

    private static void asked() {
        LittleMore x = Checks.shop(0, 6, 50, 1, 9, 40, 3, 0, 10, 0, 9, 10);
        asked(x, 0, 45, 50);
        asked(x, 1, 38, 40);
        asked(x, 2, 5, 10);
        x.knife(6);
        asked(x, 2, 1, 10);
        asked(x, 3, 1, 10);
        x.knife(7);
        asked(x, 2, 1, 11);
        asked(x, 3, 5, 10);
        x.knife(30);
        asked(x, 2, 1, 34);
        Checks.counter(x, "less 99 c=0");
        asked(x, 0, 50, 50);
        x.set(0, 0, 99);
        asked(x, 0, 99, 99);
        x.set(0, 3, 1);
        asked(x, 0, -5, -5);
        CHECKS.due("asked(0, 2)", x.asked(0, 2), LittleMore.NONE);
        CHECKS.due("asked(1, -1)", x.asked(1, -1), LittleMore.NONE);
        CHECKS.due("asked(4, 0)", x.asked(4, 0), LittleMore.NONE);
        CHECKS.due("asked(-1, 1)", x.asked(-1, 1), LittleMore.NONE);
    }

    private static void dare(LittleMore x, int n, int off, int most) {
        CHECKS.due("dare(" + n + ", 0)", x.dare(n, 0), off);
        CHECKS.due("dare(" + n + ", 1)", x.dare(n, 1), most);
    }

    private static void dare() {
        dare(new LittleMore(), 1, 0, 0);
        dare(Checks.shop(3, 0, 30), 1, 30, 240);
        // 15 + 33, 15 + 34, 15 + 35.
        dare(Checks.shop(3, 0, 30), 3, 30, 5 * 147);
        // The half of 33 and of 32 are the same: the least OFF.
        LittleMore x = Checks.shop(0, 9, 50);
        dare(x, 1, 29, 330);
        Checks.counter(x, "less 28 t=3");
        // With 30 it lets 5 pass and with 29 only 4; above what it lets pass there is nothing.
        dare(x, 1, 30, 275);
        CHECKS.due("told(0) behind dare", x.told(0), 2);
        Checks.counter(x, "price 0");
        dare(x, 20, 0, 0);
        Checks.counter(x, "price 7");
        x.set(0, 3, 1);
        dare(x, 20, 0, 0);
        // With 1: 4 yes, 5 no, 3 yes, 4 yes; from 5 on it is GONE behind three.
        dare(Checks.shop(5, 2, 99), 4, 1, 5 * (103 + 101 + 102 + 103));
        // Always GONE behind some visits: 10 + 16, 10 + 15, 10 + 15.
        dare(Checks.shop(5, 0, 10), 20, 30, 5 * 76);
        CHECKS.due("dare(0, 0)", x.dare(0, 0), LittleMore.BAD);
        CHECKS.due("dare(21, 0)", x.dare(21, 0), LittleMore.BAD);
        CHECKS.due("dare(21, 2)", x.dare(21, 2), LittleMore.NONE);
        CHECKS.due("dare(1, -1)", x.dare(1, -1), LittleMore.NONE);
    }

    private static void learnt(LittleMore x, int q, int due) {
        CHECKS.due("learnt(0, " + q + ")", x.learnt(0, q), due);
    }

    private static void learnt() {
        // MORE: 5, 3, 4, 5, 3 ..
        LittleMore x = Checks.shop(0, 4, 50);
        learnt(x, 99, 0);
        learnt(x, 5, 0);
        learnt(x, 4, 1);
        learnt(x, 3, 1);
        learnt(x, 2, -5);
        learnt(x, 0, -5);
        learnt(x, -1, LittleMore.BAD);
        learnt(x, 100, LittleMore.BAD);
        CHECKS.due("learnt(1, 100)", x.learnt(1, 100), LittleMore.NONE);
        CHECKS.due("learnt(-1, 0)", x.learnt(-1, 0), LittleMore.NONE);
        // NOES go up by one a visit: the fortieth visit is the last that counts.
        LittleMore late = Checks.shop(0, 0, 50);
        Checks.counter(late, "less 99 n>39");
        learnt(late, 0, 40);
        Checks.counter(late, "less 99 n>40");
        learnt(late, 0, -5);
        LittleMore gone = Checks.shop(5, 0, 20);
        learnt(gone, 2, 2);
        learnt(gone, 1, -5);
        gone.set(0, 3, 1);
        learnt(gone, 5, 0);
        learnt(gone, 4, -5);
    }

    private static void nobody() {
        CHECKS.due("nobody() with none", new LittleMore().nobody(), 0);
        LittleMore x = Checks.shop(0, 0, 50);
        CHECKS.due("nobody() with a knife off by 2", x.nobody(), -5);
        x.knife(0);
        CHECKS.due("nobody() with a good knife", x.nobody(), 2);
        x.customer(0, 9, 50);
        // The other one's TRUST is 5 then.
        CHECKS.due("nobody() with two", x.nobody(), 2);
        LittleMore leaving = Checks.shop(5, 0, 20);
        CHECKS.due("nobody() when the only one is GONE", leaving.nobody(), 3);
        leaving.set(0, 3, 1);
        CHECKS.due("nobody() with one who is GONE", leaving.nobody(), 0);
        LittleMore late = Checks.shop(0, 0, 50);
        Checks.counter(late, "less 99 n>39");
        CHECKS.due("nobody() behind forty", late.nobody(), 40);
        Checks.counter(late, "less 99 n>40");
        CHECKS.due("nobody() beyond forty", late.nobody(), -5);
    }

    private static void lost() {
        LittleMore x = Checks.shop(0, 0, 50, 5, 0, 20, 3, 0, 30, 5, 9, 20);
        CHECKS.due("lost(0)", x.lost(0), 0);
        CHECKS.due("lost(2)", x.lost(2), 0);
        CHECKS.due("lost(3)", x.lost(3), 2);
        x.set(2, 3, 1);
        CHECKS.due("lost(0) with one GONE", x.lost(0), 4);
        CHECKS.due("lost(3) with one GONE", x.lost(3), 6);
        CHECKS.due("told(3) behind lost", x.told(3), 4);
        // It lets 18 pass: 5 to 18 are yes, 19 no; 17, 18 yes, 19 no; 17, 18 yes, 19 no: visits 15, 18, 21.
        CHECKS.due("lost(20)", x.lost(20), 6);
        CHECKS.due("lost(21)", x.lost(21), 14);
        CHECKS.due("lost(40)", x.lost(40), 14);
        CHECKS.due("lost(-1)", x.lost(-1), LittleMore.BAD);
        CHECKS.due("lost(41)", x.lost(41), LittleMore.BAD);
    }

    private static void over() {
        LittleMore x = Checks.shop(0, 6, 50, 5, 0, 20);
        CHECKS.due("over(0, 5, 3)", x.over(0, 5, 3), 820 - 750);
        CHECKS.due("over(0, 6, 3)", x.over(0, 6, 3), 820 - 900);
        CHECKS.due("over(0, 1, 1)", x.over(0, 1, 1), 275 - 50);
        CHECKS.due("over(0, 99, 1)", x.over(0, 99, 1), 275 - 4950);
        CHECKS.due("over(1, 5, 40)", x.over(1, 5, 40), 320 - 4000);
        x.set(1, 3, 1);
        CHECKS.due("over(1, 5, 40) of one who is GONE", x.over(1, 5, 40), -4000);
        CHECKS.due("over(0, 0, 1)", x.over(0, 0, 1), -1000002);
        CHECKS.due("over(0, 100, 1)", x.over(0, 100, 1), -1000002);
        CHECKS.due("over(0, 1, 0)", x.over(0, 1, 0), -1000002);
        CHECKS.due("over(0, 1, 41)", x.over(0, 1, 41), -1000002);
        CHECKS.due("over(2, 0, 41)", x.over(2, 0, 41), -1000001);
        CHECKS.due("over(-1, 1, 1)", x.over(-1, 1, 1), -1000001);
    }

    private static void nearest() {
        CHECKS.due("nearest(1) with none", new LittleMore().nearest(1), -5);
        CHECKS.due("nearest(21) with none", new LittleMore().nearest(21), LittleMore.BAD);
        // Too much: 5, the half of 5; then 6 (11), 3 (5); then 3 (14), 4 (9).
        LittleMore x = Checks.shop(0, 6, 50, 0, 4, 60);
        CHECKS.due("nearest(1)", x.nearest(1), 1);
        LittleMore alike = Checks.shop(0, 6, 50, 2, 3, 70, 0, 6, 90);
        CHECKS.due("nearest(3) of some who are as near", alike.nearest(3), 0);
        // Half of 34 and 5 is 12 less than 34; 5 more than 50 is nearer.
        LittleMore less = Checks.shop(3, 0, 34, 0, 6, 50);
        CHECKS.due("nearest(1) with a child", less.nearest(1), 1);
        // 5 + 5 is just 10.
        LittleMore just = Checks.shop(0, 6, 50, 3, 0, 10);
        CHECKS.due("nearest(1) with one who gets just that", just.nearest(1), 1);
        // Who is GONE is off by n times WANTS.
        LittleMore gone = Checks.shop(0, 6, 10, 3, 0, 99);
        gone.set(0, 3, 1);
        CHECKS.due("nearest(1) with one GONE", gone.nearest(1), 0);
        gone.set(0, 0, 99);
        CHECKS.due("nearest(1) with one GONE who wants more", gone.nearest(1), 1);
        CHECKS.due("nearest(0)", x.nearest(0), LittleMore.BAD);
        CHECKS.due("nearest(21)", x.nearest(21), LittleMore.BAD);
    }

    public static void main(String[] args) {
        asked();
        dare();
        learnt();
        nobody();
        lost();
        over();
        nearest();
        CHECKS.end();
    }
}
