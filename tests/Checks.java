/** Counts the answers that are not the ones that are due; each test makes one and ends with end(). */
final class Checks {
    private final String test;
    private int looked = 0;
    private int wrong = 0;

    Checks(String test) {
        this.test = test;
    }

    void due(String call, long got, long want) {
        looked++;
        if (got != want) {
            wrong++;
            System.out.println(test + ": " + call + " answered " + got + ", due is " + want);
        }
    }

    void holds(String what, boolean does) {
        due(what, does ? 1 : 0, 1);
    }

    /** A text fed to an object, sign by sign; nothing is looked at. */
    static void feed(LittleMore x, String text) {
        for (int i = 0; i < text.length(); i++) {
            x.feed(text.charAt(i));
        }
    }

    /** A counter fed and read: what counter() answers. */
    static int counter(LittleMore x, String text) {
        feed(x, text);
        return x.counter();
    }

    /** One object with one customer of each kind's v and wants, as told: kind, v, wants, kind, v, wants .. */
    static LittleMore shop(int... told) {
        LittleMore x = new LittleMore();
        for (int k = 0; k + 2 < told.length; k += 3) {
            x.customer(told[k], told[k + 1], told[k + 2]);
        }
        return x;
    }

    void end() {
        System.out.println(test + ": " + looked + " looked at, " + wrong + " wrong");
        if (wrong != 0) {
            System.exit(1);
        }
    }
}
