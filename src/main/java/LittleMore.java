import java.util.ArrayList;
import java.util.Arrays;

/** A grocer who cuts a little more, the customers who let it pass or do not, and what may be asked of both. */
public final class LittleMore {
    public static final int NONE = -1, BAD = -2, STATE = -3, FULL = -4;
    public static final long NO = Long.MIN_VALUE;

    private static final int NOTHING = -11, CAST = -12, PLACE = -13, SIZE = -14;
    private static final int NOT_ANY = -5;
    private static final int NO_CUSTOMER_OVER = -1000001, BAD_OVER = -1000002;
    private static final int FAULT_BASE = -10, ENDED_BASE = 100;

    private static final int CUSTOMERS_MOST = 6, KINDS = 7, ROW_LENGTH = 4;
    private static final int V_MOST = 9, WANTS_LEAST = 10, WANTS_MOST = 99, ROW_MOST = 9;
    private static final int TRUST_FIRST = 3, TRUST_MOST = 20, OVER_MOST = 99, NOES_MOST = 99, VISITS_MOST = 9999;
    private static final int OFF_FIRST = 2, OFF_MOST = 30, NOES_TO_LEAVE = 3, LETS_ALL = 99;

    private static final int TEXT_MOST = 100, SIGN_MOST = 127, CLAUSES_MOST = 10, DEPTH_MOST = 4, COUNTERS_MOST = 6;
    private static final int PRICE_FIRST = 5, LEARN_FIRST = 1, DAYS = 7;

    private static final int VISITS_ASKED_MOST = 40, DARE_MOST = 20, NEAREST_MOST = 20;
    private static final int ASK_LEAST = 1, Q_MOST = 99, P_MOST = 99;
    private static final int SEEN_MOST = 4, CUT_MOST = 999, BOOK_MOST = 8, TRACE_MOST = 20;

    private static final int TAPES = 6, ITEMS_MOST = 60;
    private static final int HOLDS_NOTHING = -1, BYTES = 0, SHORTS = 1, INTS = 2, BOOLEANS = 4;

    private final Kind[] kinds = new Kind[] {
        new Kind(0), new Strict(1), new Gentle(2), new Child(3), new Counting(4), new Leaving(5), new Told(6)
    };
    private final Shop now = new Shop(kinds[0]);
    private final Shop image = new Shop(kinds[0]);
    // What is only asked is tried out here, so that nothing of now has to be put back.
    private final Shop trial = new Shop(kinds[0]);
    private final Text text = new Text();
    private final ArrayList<Integer> bodies = new ArrayList<Integer>();
    private final int[] sorts = new int[TAPES];
    private final int[] lengths = new int[TAPES];
    private final long[][] items = new long[TAPES][ITEMS_MOST];
    private int counters = 0;
    private boolean imageTaken = false;

    public LittleMore() {
        Arrays.fill(sorts, HOLDS_NOTHING);
    }

    // ---- customers, counters

    public int customer(int kind, int v, int wants) {
        if (isOutside(kind, 0, KINDS - 1)) {
            return NONE;
        }
        if (isOutside(v, 0, V_MOST) || isOutside(wants, WANTS_LEAST, WANTS_MOST)) {
            return BAD;
        }
        if (now.size >= CUSTOMERS_MOST) {
            return FULL;
        }
        now.people[now.size].begin(kinds[kind], v, wants);
        now.size++;
        return now.size - 1;
    }

    public int of(int customer, int what) {
        Customer one = now.at(customer);
        if (one == null) {
            return NONE;
        }
        switch (what) {
            case 0: return one.kind.number;
            case 1: return one.v;
            case 2: return one.wants;
            case 3: return one.trust;
            case 4: return one.over;
            case 5: return one.noes;
            case 6: return one.visits;
            case 7: return one.gone ? 1 : 0;
            case 8: return now.moreFor(one);
            case 9: return one.kind.portion(one);
            case 10: return one.kind.patience(one);
            case 11: return now.refuses(one) ? 1 : 0;
            default: return NONE;
        }
    }

    public int set(int customer, int what, int n) {
        Customer one = now.at(customer);
        if (one == null || isOutside(what, 0, 3)) {
            return NONE;
        }
        int was;
        switch (what) {
            case 0:
                if (isOutside(n, WANTS_LEAST, WANTS_MOST)) {
                    return BAD;
                }
                was = one.wants;
                one.wants = n;
                return was;
            case 1:
                if (isOutside(n, 0, TRUST_MOST)) {
                    return BAD;
                }
                was = one.trust;
                one.trust = n;
                return was;
            case 2:
                if (isOutside(n, 0, OVER_MOST)) {
                    return BAD;
                }
                was = one.over;
                one.over = n;
                return was;
            default:
                if (isOutside(n, 0, 1)) {
                    return BAD;
                }
                was = one.gone ? 1 : 0;
                one.gone = n == 1;
                return was;
        }
    }

    public int row(int customer, int part, int n) {
        Customer one = now.at(customer);
        if (one == null || isOutside(part, 0, ROW_LENGTH - 1)) {
            return NONE;
        }
        if (isOutside(n, 0, ROW_MOST)) {
            return BAD;
        }
        if (!(one.kind instanceof Told)) {
            return STATE;
        }
        int was = one.extras[part];
        one.extras[part] = n;
        return was;
    }

    public int feed(int sign) {
        if (isOutside(sign, 0, SIGN_MOST)) {
            return BAD;
        }
        if (text.length >= TEXT_MOST) {
            return FULL;
        }
        text.signs[text.length] = (byte) sign;
        text.length++;
        return text.length;
    }

    public int counter() {
        if (counters >= COUNTERS_MOST) {
            return FULL;
        }
        Counter made = text.toCounter();
        text.length = 0;
        if (made == null) {
            return FAULT_BASE - text.place;
        }
        now.counter = made;
        counters++;
        return counters - 1;
    }

    public int knife(int n) {
        if (isOutside(n, 0, OFF_MOST)) {
            return BAD;
        }
        int was = now.off;
        now.off = n;
        return was;
    }

    public int told(int what) {
        switch (what) {
            case 0: return now.off;
            case 1: return now.counter.price;
            case 2: return now.counter.learn;
            case 3: return now.goneBits();
            default: return NONE;
        }
    }

    // ---- visits

    public int visit(int customer) {
        Customer one = now.at(customer);
        if (one == null) {
            return NONE;
        }
        if (one.gone) {
            return STATE;
        }
        int bought = now.makeVisit(one);
        now.boundVisits();
        return bought * now.counter.price;
    }

    public int saturday() {
        int bought = now.makeSaturday();
        now.boundVisits();
        return bought * now.counter.price;
    }

    public int on(int customer, int n, int what) {
        Shop shop = shopToTry();
        Customer one = shop.at(customer);
        if (one == null || isOutside(what, 0, 4)) {
            return NONE;
        }
        if (isOutside(n, 0, VISITS_ASKED_MOST)) {
            return BAD;
        }
        int noesBefore = one.noes;
        int bought = shop.makeVisitsAlone(one, n);
        switch (what) {
            case 0: return bought;
            case 1: return bought * shop.counter.price;
            case 2: return one.noes - noesBefore;
            case 3: return one.trust;
            default: return one.over;
        }
    }

    // ---- what is best

    public int asked(int customer, int what) {
        Customer one = now.at(customer);
        if (one == null || isOutside(what, 0, 1)) {
            return NONE;
        }
        if (one.gone) {
            return NOT_ANY;
        }
        int added = now.boughtBeyondAsked(one);
        // What is added does not hang on a: the nearest a is the one that leaves just room for it.
        int a = Math.max(ASK_LEAST, one.wants - added);
        return what == 0 ? a : a + added;
    }

    public int dare(int n, int what) {
        if (isOutside(what, 0, 1)) {
            return NONE;
        }
        if (isOutside(n, 1, DARE_MOST)) {
            return BAD;
        }
        int bestOff = 0;
        int most = -1;
        for (int off = 0; off <= OFF_MOST; off++) {
            int paid = paidWith(off, n);
            if (paid > most) {
                most = paid;
                bestOff = off;
            }
        }
        return what == 0 ? bestOff : most;
    }

    public int learnt(int customer, int q) {
        Shop shop = shopToTry();
        Customer one = shop.at(customer);
        if (one == null) {
            return NONE;
        }
        if (isOutside(q, 0, Q_MOST)) {
            return BAD;
        }
        for (int visits = 0; visits <= VISITS_ASKED_MOST; visits++) {
            if (shop.moreFor(one) <= q) {
                return visits;
            }
            shop.makeVisitsAlone(one, 1);
        }
        return NOT_ANY;
    }

    public int nobody() {
        Shop shop = shopToTry();
        for (int saturdays = 0; saturdays <= VISITS_ASKED_MOST; saturdays++) {
            if (shop.howManyRefuse() == 0) {
                return saturdays;
            }
            shop.makeSaturday();
        }
        return NOT_ANY;
    }

    public int lost(int n) {
        if (isOutside(n, 0, VISITS_ASKED_MOST)) {
            return BAD;
        }
        return shopBehind(n).goneBits();
    }

    public int over(int customer, int p, int n) {
        Shop shop = shopToTry();
        Customer one = shop.at(customer);
        if (one == null) {
            return NO_CUSTOMER_OVER;
        }
        if (isOutside(p, 1, P_MOST) || isOutside(n, 1, VISITS_ASKED_MOST)) {
            return BAD_OVER;
        }
        return shop.makeVisitsAlone(one, n) * shop.counter.price - n * one.wants * p;
    }

    public int nearest(int n) {
        if (isOutside(n, 1, NEAREST_MOST)) {
            return BAD;
        }
        Shop shop = shopToTry();
        int found = NOT_ANY;
        int least = 0;
        for (int c = 0; c < shop.size; c++) {
            Customer one = shop.people[c];
            int far = Math.abs(shop.makeVisitsAlone(one, n) - n * one.wants);
            if (found < 0 || far < least) {
                least = far;
                found = c;
            }
        }
        return found;
    }

    // ---- seen, odds, books

    public int see(int cut) {
        if (cut == -1) {
            now.seenCount = 0;
            return 0;
        }
        if (isOutside(cut, 0, CUT_MOST)) {
            return BAD;
        }
        if (now.seenCount >= SEEN_MOST) {
            return FULL;
        }
        now.seen[now.seenCount] = cut;
        now.seenCount++;
        return now.seenCount;
    }

    public int who() {
        Shop shop = shopToTry();
        int bits = 0;
        for (int c = 0; c < shop.size; c++) {
            if (shop.cutsAreSeen(shop.people[c])) {
                bits |= 1 << c;
            }
        }
        return bits;
    }

    public int offs(int customer, int what) {
        if (now.at(customer) == null || isOutside(what, 0, 1)) {
            return NONE;
        }
        int many = 0;
        int least = NOT_ANY;
        for (int off = OFF_MOST; off >= 0; off--) {
            if (isSeenWith(off, customer)) {
                many++;
                least = off;
            }
        }
        return what == 0 ? many : least;
    }

    public long odds(int n, int part) {
        if (isOutside(n, 0, VISITS_ASKED_MOST) || isOutside(part, 0, 1)) {
            return NO;
        }
        Shop shop = shopBehind(n);
        return partInLowestTerms(shop.howManyRefuse(), shop.howManyStay(), part);
    }

    public long mean(int n, int part) {
        if (isOutside(n, 1, VISITS_ASKED_MOST) || isOutside(part, 0, 1)) {
            return NO;
        }
        Shop shop = shopToTry();
        long tooMuch = 0;
        long visits = 0;
        for (int saturday = 0; saturday < n; saturday++) {
            visits += shop.howManyStay();
            tooMuch -= shop.askedTogether();
            tooMuch += shop.makeSaturday();
        }
        return partInLowestTerms(tooMuch, visits, part);
    }

    public int book(int customer) {
        if (customer == -1) {
            now.bookCount = 0;
            return 0;
        }
        if (now.at(customer) == null) {
            return NONE;
        }
        if (now.bookCount >= BOOK_MOST) {
            return FULL;
        }
        now.booked[now.bookCount] = customer;
        now.bookCount++;
        return now.bookCount;
    }

    public int looked() {
        Shop shop = shopToTry();
        for (int k = 0; k < shop.bookCount; k++) {
            Customer one = shop.at(shop.booked[k]);
            if (one != null && !one.gone) {
                if (shop.refuses(one)) {
                    return one.number;
                }
                shop.makeVisit(one);
            }
        }
        return NOT_ANY;
    }

    // ---- judging, the image, acts, tapes

    public int judge(int tape, int i) {
        if (isNoTape(tape)) {
            return NONE;
        }
        if (sorts[tape] != BYTES && sorts[tape] != HOLDS_NOTHING) {
            return CAST;
        }
        for (int c = 0; c < now.size; c++) {
            if (i < 0 || i >= lengths[tape] - c) {
                return ENDED_BASE + c;
            }
            if (items[tape][i + c] != now.people[c].trust) {
                return c;
            }
        }
        return NOT_ANY;
    }

    public int image() {
        image.become(now);
        imageTaken = true;
        return now.size;
    }

    public int undo() {
        if (!imageTaken) {
            return STATE;
        }
        now.become(image);
        return now.size;
    }

    public int act(int customer, int act, int x) {
        bodies.clear();
        Customer one = now.at(customer);
        if (one == null) {
            return 0;
        }
        switch (act) {
            case 0: return one.kind.asks(one, x, bodies);
            case 1: return one.kind.buys(one, x, bodies);
            case 2: return one.kind.tells(one, x, bodies);
            default: return 0;
        }
    }

    public int trace(int i) {
        if (i < 0 || i >= TRACE_MOST || i >= bodies.size()) {
            return NONE;
        }
        return bodies.get(i);
    }

    public int taken(int customer, int k) {
        if (isOutside(k, 0, KINDS - 1)) {
            return BAD;
        }
        Customer one = now.at(customer);
        if (one == null) {
            return NOTHING;
        }
        return isOfKind(one.kind, k) ? one.kind.number : CAST;
    }

    public int count(int what) {
        switch (what) {
            case 0: return now.size;
            case 1: return counters;
            case 2: return now.seenCount;
            case 3: return now.bookCount;
            case 4: return text.length;
            case 5: return bodies.size();
            default: return BAD;
        }
    }

    public int tape(int tape, int sort, int n) {
        if (isNoTape(tape)) {
            return NONE;
        }
        if (isOutside(sort, HOLDS_NOTHING, BOOLEANS)) {
            return BAD;
        }
        int length = sort == HOLDS_NOTHING ? 0 : n;
        if (length > ITEMS_MOST) {
            return BAD;
        }
        if (length < 0) {
            return SIZE;
        }
        sorts[tape] = sort;
        lengths[tape] = length;
        Arrays.fill(items[tape], 0L);
        return 1;
    }

    public int item(int tape, int i, long v) {
        if (isNoTape(tape)) {
            return NONE;
        }
        if (sorts[tape] == HOLDS_NOTHING) {
            return NOTHING;
        }
        if (isOutside(i, 0, lengths[tape] - 1)) {
            return PLACE;
        }
        items[tape][i] = asItem(sorts[tape], v);
        return 1;
    }

    public long read(int tape, int i) {
        // A TAPE that holds nothing has the length 0.
        if (isNoTape(tape) || isOutside(i, 0, lengths[tape] - 1)) {
            return NO;
        }
        return items[tape][i];
    }

    public int shift(int tape, int i, int other, int j, int n) {
        if (isNoTape(tape) || isNoTape(other)) {
            return NONE;
        }
        if (sorts[tape] == HOLDS_NOTHING || sorts[other] == HOLDS_NOTHING) {
            return NOTHING;
        }
        if (sorts[tape] != sorts[other]) {
            return CAST;
        }
        // Lengths less n, not places and n: a sum of two large places would wrap.
        if (n < 0 || isOutside(i, 0, lengths[tape] - n) || isOutside(j, 0, lengths[other] - n)) {
            return PLACE;
        }
        System.arraycopy(items[tape], i, items[other], j, n);
        return n;
    }

    // ---- what the calls share

    private static boolean isOutside(int n, int least, int most) {
        return n < least || n > most;
    }

    private static boolean isNoTape(int tape) {
        return tape < 0 || tape >= TAPES;
    }

    private static long asItem(int sort, long v) {
        switch (sort) {
            case BYTES: return (byte) v;
            case SHORTS: return (short) v;
            case INTS: return (int) v;
            case BOOLEANS: return v != 0 ? 1 : 0;
            default: return v;
        }
    }

    private static boolean isOfKind(Kind kind, int k) {
        switch (k) {
            case 0: return true;
            case 1: return kind instanceof Strict;
            case 2: return kind instanceof Gentle;
            case 3: return kind instanceof Child;
            case 4: return kind instanceof Counting;
            case 5: return kind instanceof Leaving;
            default: return kind instanceof Told;
        }
    }

    private Shop shopToTry() {
        trial.become(now);
        return trial;
    }

    private Shop shopBehind(int saturdays) {
        Shop shop = shopToTry();
        for (int k = 0; k < saturdays; k++) {
            shop.makeSaturday();
        }
        return shop;
    }

    private int paidWith(int off, int saturdays) {
        Shop shop = shopToTry();
        shop.off = off;
        int bought = 0;
        for (int k = 0; k < saturdays; k++) {
            bought += shop.makeSaturday();
        }
        return bought * shop.counter.price;
    }

    private boolean isSeenWith(int off, int customer) {
        Shop shop = shopToTry();
        shop.off = off;
        Customer one = shop.at(customer);
        return one != null && shop.cutsAreSeen(one);
    }

    private static long partInLowestTerms(long above, long below, int part) {
        long divisor = commonDivisor(above, below);
        if (below == 0 || divisor == 0) {
            return NO;
        }
        return (part == 0 ? above : below) / divisor;
    }

    private static long commonDivisor(long a, long b) {
        long divisor = a;
        long rest = b;
        // No two longs need more steps than this.
        for (int step = 0; step < 100 && rest != 0; step++) {
            long next = divisor % rest;
            divisor = rest;
            rest = next;
        }
        return divisor;
    }

    /** All that an image keeps, and nothing else: so an image, and a trial of what is only asked, is one copy. */
    private static final class Shop {
        final Customer[] people = new Customer[CUSTOMERS_MOST];
        final int[] seen = new int[SEEN_MOST];
        final int[] booked = new int[BOOK_MOST];
        int size = 0;
        int seenCount = 0;
        int bookCount = 0;
        int off = OFF_FIRST;
        Counter counter = new Counter();

        Shop(Kind first) {
            for (int c = 0; c < CUSTOMERS_MOST; c++) {
                people[c] = new Customer(c, first);
            }
        }

        void become(Shop other) {
            for (int c = 0; c < other.size; c++) {
                people[c].become(other.people[c]);
            }
            System.arraycopy(other.seen, 0, seen, 0, SEEN_MOST);
            System.arraycopy(other.booked, 0, booked, 0, BOOK_MOST);
            size = other.size;
            seenCount = other.seenCount;
            bookCount = other.bookCount;
            off = other.off;
            counter = other.counter;
        }

        Customer at(int number) {
            return number < 0 || number >= size ? null : people[number];
        }

        int moreFor(Customer one) {
            return Math.max(0, off + one.trust + counter.addedByClauses(one));
        }

        boolean refuses(Customer one) {
            return moreFor(one) > one.kind.patience(one);
        }

        int boughtBeyondAsked(Customer one) {
            int more = moreFor(one);
            return more > one.kind.patience(one) ? more / 2 : more;
        }

        // Who is gone makes no visit: that is looked at by whoever calls, as the calls answer it in different ways.
        int makeVisit(Customer one) {
            int more = moreFor(one);
            boolean no = more > one.kind.patience(one);
            int bought = one.kind.portion(one) + (no ? more / 2 : more);
            if (no) {
                one.saysNo();
            } else {
                one.trust = Math.min(TRUST_MOST, one.trust + counter.learn);
            }
            one.over = Math.min(OVER_MOST, Math.max(0, bought - one.wants));
            one.visits++;
            return bought;
        }

        int makeVisitsAlone(Customer one, int visits) {
            int bought = 0;
            for (int k = 0; k < visits && !one.gone; k++) {
                bought += makeVisit(one);
            }
            return bought;
        }

        int makeSaturday() {
            int bought = 0;
            for (int c = 0; c < size; c++) {
                if (!people[c].gone) {
                    bought += makeVisit(people[c]);
                }
            }
            return bought;
        }

        // Not in each visit: those that are only tried go on beyond the bound.
        void boundVisits() {
            for (int c = 0; c < size; c++) {
                people[c].visits = Math.min(VISITS_MOST, people[c].visits);
            }
        }

        int goneBits() {
            int bits = 0;
            for (int c = 0; c < size; c++) {
                if (people[c].gone) {
                    bits |= 1 << c;
                }
            }
            return bits;
        }

        int howManyStay() {
            return size - Integer.bitCount(goneBits());
        }

        int howManyRefuse() {
            int many = 0;
            for (int c = 0; c < size; c++) {
                if (!people[c].gone && refuses(people[c])) {
                    many++;
                }
            }
            return many;
        }

        int askedTogether() {
            int sum = 0;
            for (int c = 0; c < size; c++) {
                if (!people[c].gone) {
                    sum += people[c].kind.portion(people[c]);
                }
            }
            return sum;
        }

        boolean cutsAreSeen(Customer one) {
            for (int k = 0; k < seenCount; k++) {
                if (one.gone || one.kind.portion(one) + moreFor(one) != seen[k]) {
                    return false;
                }
                makeVisit(one);
            }
            return true;
        }
    }

    /** Its kind has no state of its own, so that those who are copied may share it. */
    private static final class Customer {
        final int number;
        final int[] extras = new int[ROW_LENGTH];
        Kind kind;
        int v = 0;
        int wants = 0;
        int trust = 0;
        int over = 0;
        int noes = 0;
        int visits = 0;
        boolean gone = false;

        Customer(int number, Kind kind) {
            this.number = number;
            this.kind = kind;
        }

        void begin(Kind kind, int v, int wants) {
            this.kind = kind;
            this.v = v;
            this.wants = wants;
            trust = TRUST_FIRST;
            over = 0;
            noes = 0;
            visits = 0;
            gone = false;
            Arrays.fill(extras, 0);
        }

        void become(Customer other) {
            kind = other.kind;
            v = other.v;
            wants = other.wants;
            trust = other.trust;
            over = other.over;
            noes = other.noes;
            visits = other.visits;
            gone = other.gone;
            System.arraycopy(other.extras, 0, extras, 0, ROW_LENGTH);
        }

        void saysNo() {
            noes = Math.min(NOES_MOST, noes + 1);
            trust = Math.max(0, trust - 2);
            if (kind.leaves(this)) {
                gone = true;
            }
        }
    }

    /** CUSTOMER, from which the other kinds come. A body tells its number first: a trace has them as they began. */
    private static class Kind {
        final int number;

        Kind(int number) {
            this.number = number;
        }

        int portion(Customer one) {
            return one.wants;
        }

        int patience(Customer one) {
            return one.v;
        }

        boolean leaves(Customer one) {
            return false;
        }

        int asks(Customer one, int x, ArrayList<Integer> bodies) {
            bodies.add(10);
            return x + one.number;
        }

        int buys(Customer one, int x, ArrayList<Integer> bodies) {
            bodies.add(11);
            return asks(one, x, bodies) - one.v;
        }

        int tells(Customer one, int x, ArrayList<Integer> bodies) {
            bodies.add(12);
            return buys(one, x, bodies) * 2;
        }
    }

    private static class Strict extends Kind {
        Strict(int number) {
            super(number);
        }

        int portion(Customer one) {
            return Math.max(1, one.wants - one.over);
        }

        int patience(Customer one) {
            return one.v / 2;
        }

        int buys(Customer one, int x, ArrayList<Integer> bodies) {
            bodies.add(20);
            return super.buys(one, x, bodies) ^ 6;
        }
    }

    private static class Gentle extends Kind {
        Gentle(int number) {
            super(number);
        }

        int patience(Customer one) {
            return one.v * 2;
        }

        int asks(Customer one, int x, ArrayList<Integer> bodies) {
            bodies.add(30);
            return super.asks(one, x * 3, bodies);
        }
    }

    private static class Child extends Kind {
        Child(int number) {
            super(number);
        }

        int portion(Customer one) {
            return one.wants / 2;
        }

        int patience(Customer one) {
            return LETS_ALL;
        }

        int tells(Customer one, int x, ArrayList<Integer> bodies) {
            bodies.add(40);
            return super.tells(one, x, bodies) + buys(one, 1, bodies);
        }
    }

    private static final class Counting extends Strict {
        Counting(int number) {
            super(number);
        }

        int portion(Customer one) {
            return Math.max(1, super.portion(one) - 2);
        }

        int patience(Customer one) {
            return Math.max(0, super.patience(one) - one.over);
        }

        int asks(Customer one, int x, ArrayList<Integer> bodies) {
            bodies.add(50);
            return -super.asks(one, x, bodies);
        }

        int buys(Customer one, int x, ArrayList<Integer> bodies) {
            bodies.add(51);
            return super.buys(one, x + 1, bodies);
        }
    }

    private static final class Leaving extends Gentle {
        Leaving(int number) {
            super(number);
        }

        boolean leaves(Customer one) {
            return one.noes >= NOES_TO_LEAVE;
        }

        int tells(Customer one, int x, ArrayList<Integer> bodies) {
            bodies.add(60);
            return super.tells(one, x - one.number, bodies);
        }
    }

    private static final class Told extends Child {
        Told(int number) {
            super(number);
        }

        int portion(Customer one) {
            return super.portion(one) + one.extras[Math.floorMod(one.visits, ROW_LENGTH)];
        }

        int buys(Customer one, int x, ArrayList<Integer> bodies) {
            bodies.add(70);
            return super.buys(one, x, bodies) + super.asks(one, 2, bodies);
        }

        int asks(Customer one, int x, ArrayList<Integer> bodies) {
            bodies.add(71);
            return super.asks(one, x, bodies) ^ one.v;
        }
    }

    /**
     * A counter as it was read: its clauses of more and less as codes, each with a number beside it, operands first.
     * A test's code is its letter times COMPARISONS and its comparison; ADD ends a clause with what that adds.
     */
    private static final class Counter {
        private static final int COMPARISONS = 3;
        private static final int NOT = 18, AND = 19, OR = 20, ADD = 21;

        final int price;
        final int learn;
        private final int[] codes;
        private final int[] numbers;

        Counter() {
            price = PRICE_FIRST;
            learn = LEARN_FIRST;
            codes = new int[0];
            numbers = new int[0];
        }

        Counter(Text text) {
            price = text.price;
            learn = text.learn;
            codes = Arrays.copyOf(text.codes, text.codeCount);
            numbers = Arrays.copyOf(text.numbers, text.codeCount);
        }

        int addedByClauses(Customer one) {
            int sum = 0;
            // A bit for each operand that waits, the latest lowest: an int has room, as eleven at most can wait.
            int found = 0;
            for (int k = 0; k < codes.length; k++) {
                int code = codes[k];
                int latest = found & 1;
                switch (code) {
                    case NOT:
                        found ^= 1;
                        break;
                    case AND:
                        found = (found >> 1) & (latest | ~1);
                        break;
                    case OR:
                        found = (found >> 1) | latest;
                        break;
                    case ADD:
                        sum += latest * numbers[k];
                        found = 0;
                        break;
                    default:
                        int value = valueOf(one, code / COMPARISONS);
                        found = (found << 1) | (compares(value, code % COMPARISONS, numbers[k]) ? 1 : 0);
                        break;
                }
            }
            return sum;
        }

        private static int valueOf(Customer one, int letter) {
            switch (letter) {
                case 0: return one.number;
                case 1: return one.kind.number;
                case 2: return one.trust;
                case 3: return one.over;
                case 4: return one.noes;
                default: return one.visits % DAYS;
            }
        }

        private static boolean compares(int value, int comparison, int number) {
            switch (comparison) {
                case 0: return value < number;
                case 1: return value == number;
                default: return value > number;
            }
        }
    }

    /** Takes a sign only where a counter can begin so: thus the place at which a reading ends early is the fault. */
    private static final class Text {
        private static final int END = -1, NO_WORD = -1;
        private static final int MORE = 0, LESS = 1, PRICE = 2, LEARN = 3, WORDS = 4;
        // In the order in which Counter knows them.
        private static final String LETTERS = "cktond", SIGNS_OF_COMPARISON = "<=>";

        final byte[] signs = new byte[TEXT_MOST];
        int length = 0;
        int place = 0;
        int price = PRICE_FIRST;
        int learn = LEARN_FIRST;
        final int[] codes = new int[TEXT_MOST];
        final int[] numbers = new int[TEXT_MOST];
        int codeCount = 0;
        private int latestNumber = 0;

        Counter toCounter() {
            place = 0;
            price = PRICE_FIRST;
            learn = LEARN_FIRST;
            codeCount = 0;
            for (int k = 0; k < CLAUSES_MOST; k++) {
                boolean goesOn = k == 0 || takes(';');
                if (!goesOn || !readClause()) {
                    return null;
                }
                if (place == length) {
                    return new Counter(this);
                }
            }
            return null;
        }

        private boolean readClause() {
            int word = readWord();
            if (word == NO_WORD || !takes(' ') || !readNumber()) {
                return false;
            }
            int n = latestNumber;
            switch (word) {
                case PRICE:
                    price = n;
                    return true;
                case LEARN:
                    learn = n;
                    return true;
                default:
                    return takes(' ') && readAny(0) && putCode(Counter.ADD, word == MORE ? n : -n);
            }
        }

        private int readWord() {
            int furthest = 0;
            for (int word = 0; word < WORDS; word++) {
                String name = nameOf(word);
                int alike = howManyAlike(name);
                if (alike == name.length()) {
                    place += alike;
                    return word;
                }
                furthest = Math.max(furthest, alike);
            }
            place += furthest;
            return NO_WORD;
        }

        private static String nameOf(int word) {
            switch (word) {
                case MORE: return "more";
                case LESS: return "less";
                case PRICE: return "price";
                default: return "learn";
            }
        }

        private int howManyAlike(String name) {
            for (int k = 0; k < name.length(); k++) {
                if (signAt(place + k) != name.charAt(k)) {
                    return k;
                }
            }
            return name.length();
        }

        // The document's E.
        private boolean readAny(int within) {
            if (!readAll(within)) {
                return false;
            }
            for (int k = 0; k < TEXT_MOST && takes('|'); k++) {
                if (!readAll(within) || !putCode(Counter.OR, 0)) {
                    return false;
                }
            }
            return true;
        }

        // The document's T.
        private boolean readAll(int within) {
            if (!readOne(within)) {
                return false;
            }
            for (int k = 0; k < TEXT_MOST && takes('&'); k++) {
                if (!readOne(within) || !putCode(Counter.AND, 0)) {
                    return false;
                }
            }
            return true;
        }

        // The document's F.
        private boolean readOne(int within) {
            if (within < DEPTH_MOST && takes('!')) {
                return readOne(within + 1) && putCode(Counter.NOT, 0);
            }
            if (within < DEPTH_MOST && takes('(')) {
                return readAny(within + 1) && takes(')');
            }
            int letter = takesOneOf(LETTERS);
            int comparison = letter < 0 ? letter : takesOneOf(SIGNS_OF_COMPARISON);
            return comparison >= 0 && readNumber()
                && putCode(letter * Counter.COMPARISONS + comparison, latestNumber);
        }

        private boolean readNumber() {
            if (!isDigit(signAt(place))) {
                return false;
            }
            latestNumber = signAt(place) - '0';
            place++;
            if (isDigit(signAt(place))) {
                latestNumber = latestNumber * 10 + signAt(place) - '0';
                place++;
            }
            return true;
        }

        private static boolean isDigit(int sign) {
            return sign >= '0' && sign <= '9';
        }

        private int signAt(int where) {
            return where >= 0 && where < length ? signs[where] : END;
        }

        private boolean takes(char sign) {
            if (signAt(place) != sign) {
                return false;
            }
            place++;
            return true;
        }

        private int takesOneOf(String choice) {
            int sign = signAt(place);
            if (sign == END) {
                return -1;
            }
            int found = choice.indexOf((char) sign);
            if (found >= 0) {
                place++;
            }
            return found;
        }

        private boolean putCode(int code, int number) {
            if (codeCount >= TEXT_MOST) {
                return false;
            }
            codes[codeCount] = code;
            numbers[codeCount] = number;
            codeCount++;
            return true;
        }
    }
}
