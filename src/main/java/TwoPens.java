/**
 * A hundred lines with two pens: sheets of lines, the ways to write them, schools that tell what is
 * looked at, and what all of it comes to. The numbered promises are in ../shared/DOC.md.
 */
public final class TwoPens {
    public static final int NONE = -1, BAD = -2, STATE = -3, FULL = -4;
    public static final long NO = Long.MIN_VALUE;

    private static final int NOTHING = -5;
    private static final int OTHER_KIND = -6;
    private static final int FAULTS = -10;
    private static final int MISSING = -1;
    private static final int NOWHERE = -1;
    private static final int NO_WAY = -1;
    private static final int NEVER = 0x7fffffff;

    private static final int MOST_WAYS = 6;
    private static final int MOST_LINES = 40;
    private static final int MOST_SIGNS = 100;
    private static final int MOST_SCHOOLS = 5;
    private static final int MOST_PENCE = 999;
    private static final int MOST_COST = 99;
    private static final int HUNDRED = 100;
    private static final int FIRST_PLACE = 10;

    private final Desk desk = new Desk();
    private final Desk kept = new Desk();
    private boolean keptOne;
    private final Trace trace = new Trace();

    public TwoPens() {
    }

    // ---- schools, ways, sheets

    public int feed(int sign) {
        if (sign < 0 || sign > 127) {
            return BAD;
        }
        return desk.tape.add(sign) ? desk.tape.size() : FULL;
    }

    public int school() {
        if (desk.schools >= MOST_SCHOOLS) {
            return FULL;
        }
        School next = new School();
        int fault = next.read(desk.tape);
        desk.tape.clear();
        if (fault >= 0) {
            return FAULTS - fault;
        }
        desk.holding = next;
        desk.schools++;
        return desk.schools - 1;
    }

    public int way(int kind, int v, int slow) {
        if (kind < 0 || kind > 6) {
            return NONE;
        }
        if (!isDigit(v) || slow < 1 || slow > 60) {
            return BAD;
        }
        int number = desk.wayCount();
        return desk.addWay(made(kind, number, v, slow)) ? number : FULL;
    }

    public int of(int way, int what) {
        Line asked = desk.wayOf(way);
        if (asked == null) {
            return NONE;
        }
        switch (what) {
            case 0: return asked.kind;
            case 1: return asked.v;
            case 2: return asked.slow;
            case 3: return desk.sheet.timesOf(way);
            default: return NONE;
        }
    }

    public int row(int way, int k, int n) {
        Line asked = desk.wayOf(way);
        if (asked == null || k < 0 || k > 3) {
            return NONE;
        }
        if (!isDigit(n)) {
            return BAD;
        }
        if (asked instanceof Told) {
            Told before = (Told) asked;
            desk.putWay(way, before.withRow(k, n));
            return before.rowAt(k);
        }
        return STATE;
    }

    public int write(int way, int n) {
        Line by = desk.wayOf(way);
        if (by == null && way != MISSING) {
            return NONE;
        }
        if (!isLength(n)) {
            return BAD;
        }
        if (desk.sheet.size() + n > MOST_LINES) {
            return FULL;
        }
        for (int i = 0; i < n; i++) {
            desk.sheet.add(way);
        }
        desk.spent += desk.secondsOf(way, n);
        desk.paid += desk.penceOf(way, n);
        return desk.sheet.size();
    }

    public int tear() {
        int lines = desk.sheet.size();
        desk.sheet.clear();
        desk.shown.clear();
        desk.spent = 0;
        desk.paid = 0;
        return lines;
    }

    public int line(int place, int what) {
        if (!desk.sheet.hasPlace(place) || !isPart(what)) {
            return NONE;
        }
        if (what == 1) {
            return desk.signAt(place);
        }
        int by = desk.sheet.get(place);
        return by == MISSING ? NOTHING : by;
    }

    public int told(int what) {
        switch (what) {
            case 0: return desk.sheet.size();
            case 1: return desk.spent;
            case 2: return desk.paid;
            case 3: return desk.holding.want;
            case 4: return desk.holding.look;
            case 5: return desk.holding.count;
            case 6: return desk.sheet.timesOf(MISSING);
            default: break;
        }
        if (what < FIRST_PLACE || what - FIRST_PLACE >= desk.placeCount()) {
            return NONE;
        }
        return desk.placeAt(what - FIRST_PLACE);
    }

    public int cost(int way, int n, int what) {
        if (desk.wayOf(way) == null || !isPart(what)) {
            return NONE;
        }
        if (!isLength(n)) {
            return BAD;
        }
        return what == 0 ? desk.secondsOf(way, n) : desk.penceOf(way, n);
    }

    public int looks(int place) {
        if (place == -1) {
            desk.places.clear();
            return 0;
        }
        if (!isPlace(place) || desk.places.timesOf(place) > 0) {
            return BAD;
        }
        return desk.places.add(place) ? desk.places.size() : FULL;
    }

    // ---- what is seen; part 0 above, 1 below the line

    public long safe(int part) {
        return lowest(desk.unseenNow(), hundreds(desk.placeCount()), part);
    }

    public long again(int part) {
        long all = hundreds(desk.placeCount());
        return lowest(desk.holding.want * (2 * all - desk.unseenNow()), all, part);
    }

    public long twice(int look, int part) {
        if (look < 1 || look > 4) {
            return NO;
        }
        int want = desk.holding.want;
        int second = Math.min(look, want);
        long above = desk.unseenNow();
        for (int place = want - second; place < want; place++) {
            above *= HUNDRED - desk.signAt(place);
        }
        return lowest(above, hundreds(desk.placeCount() + second), part);
    }

    // ---- how to write

    public int quick(int n, int pence, int what) {
        if (!isPart(what)) {
            return NONE;
        }
        if (!isLength(n) || !isPence(pence)) {
            return BAD;
        }
        int best = NO_WAY;
        for (int way = 0; way < desk.wayCount(); way++) {
            boolean quicker = best == NO_WAY || desk.secondsOf(way, n) < desk.secondsOf(best, n);
            if (quicker && desk.penceOf(way, n) <= pence) {
                best = way;
            }
        }
        if (best == NO_WAY) {
            return NOTHING;
        }
        return what == 0 ? best : desk.secondsOf(best, n);
    }

    public int change(int n, int pence, int what) {
        if (what < 0 || what > 3) {
            return NONE;
        }
        if (!isLength(n) || !isPence(pence)) {
            return BAD;
        }
        int best = NEVER;
        for (int k = 0; k <= n; k++) {
            best = Math.min(best, bestChangeAt(k, n, pence));
        }
        if (best == NEVER) {
            return NOTHING;
        }
        switch (what) {
            case 0: return best / (MOST_WAYS * MOST_WAYS) / (MOST_LINES + 1);
            case 1: return best / MOST_WAYS % MOST_WAYS;
            case 2: return best / (MOST_WAYS * MOST_WAYS) % (MOST_LINES + 1);
            default: return best % MOST_WAYS;
        }
    }

    public int rests(int way, int n, int r, int what) {
        if (desk.wayOf(way) == null || !isPart(what)) {
            return NONE;
        }
        if (!isLength(n) || r < 0 || r > 99) {
            return BAD;
        }
        int best = 1;
        for (int runs = 2; runs <= n; runs++) {
            if (withRests(way, n, r, runs) < withRests(way, n, r, best)) {
                best = runs;
            }
        }
        return what == 0 ? best : withRests(way, n, r, best);
    }

    public int mend(int way) {
        if (desk.wayOf(way) == null) {
            return NONE;
        }
        int best = NOTHING;
        long greatest = desk.unseenNow();
        for (int i = 0; i < desk.placeCount(); i++) {
            int place = desk.placeAt(i);
            long mended = desk.sheet.hasPlace(place) ? desk.unseenIf(place, way) : 0;
            if (mended > greatest) {
                best = place;
                greatest = mended;
            }
        }
        return best;
    }

    public int where(int k) {
        if (k < 0 || k >= desk.holding.look || k >= desk.holding.want) {
            return NONE;
        }
        int sign = HUNDRED + 1;
        int place = NOWHERE;
        for (int i = 0; i <= k; i++) {
            place = nextWhere(sign, place);
            sign = desk.signAt(place);
        }
        return place;
    }

    public int left() {
        if (desk.holding.count != 0) {
            return 0;
        }
        int left = desk.sheet.size() - desk.sheet.timesOf(MISSING);
        for (int i = 0; i < desk.placeCount(); i++) {
            if (desk.sheet.get(desk.placeAt(i)) != MISSING) {
                left--;
            }
        }
        return left;
    }

    public int longest(int what) {
        if (!isPart(what)) {
            return NONE;
        }
        int most = 0;
        int begin = 0;
        int now = 0;
        for (int i = 0; i < desk.sheet.size(); i++) {
            int by = desk.sheet.get(i);
            now = i > 0 && desk.sheet.get(i - 1) == by ? now + 1 : 1;
            if (by != MISSING && now > most) {
                most = now;
                begin = i - now + 1;
            }
        }
        if (most == 0) {
            return NOTHING;
        }
        return what == 0 ? most : begin;
    }

    // ---- shown, stocks, tables, books

    public int show(int place) {
        if (place == -1) {
            desk.shown.clear();
            return 0;
        }
        if (!desk.sheet.hasPlace(place)) {
            return NONE;
        }
        return desk.shown.add(place) ? desk.shown.size() : FULL;
    }

    public int whose() {
        int bits = 0;
        for (int way = 0; way < desk.wayCount(); way++) {
            if (couldBeBy(way)) {
                bits |= 1 << way;
            }
        }
        return bits;
    }

    public int wanted(int n) {
        if (n == -1) {
            desk.days.clear();
            return 0;
        }
        if (n < 0 || n > 40) {
            return BAD;
        }
        return desk.days.add(n) ? desk.days.size() : FULL;
    }

    public int stock(int over, int lack) {
        if (!isCost(over) || !isCost(lack)) {
            return BAD;
        }
        return desk.days.size() == 0 ? NOTHING : bestStock(over, lack);
    }

    public long mean(int over, int lack, int part) {
        if (!isCost(over) || !isCost(lack) || desk.days.size() == 0) {
            return NO;
        }
        return lowest(costOfStock(bestStock(over, lack), over, lack), desk.days.size(), part);
    }

    public long table(int a, int b, int c, int d, int part) {
        if (!isEntry(a) || !isEntry(b) || !isEntry(c) || !isEntry(d)) {
            return NO;
        }
        int sure = Math.max(Math.min(a, b), Math.min(c, d));
        int most = Math.min(Math.max(a, c), Math.max(b, d));
        if (sure == most) {
            return lowest(sure, 1, part);
        }
        return lowest(a * d - b * c, a + d - b - c, part);
    }

    public int book(int place, int way) {
        if (place == -1) {
            desk.bookPlaces.clear();
            desk.bookWays.clear();
            return 0;
        }
        if (way != MISSING && desk.wayOf(way) == null) {
            return NONE;
        }
        if (!isPlace(place)) {
            return BAD;
        }
        boolean fits = desk.bookPlaces.add(place) && desk.bookWays.add(way);
        return fits ? desk.bookPlaces.size() : FULL;
    }

    public int looked() {
        for (int i = 0; i < desk.bookPlaces.size(); i++) {
            if (desk.sheet.get(desk.bookPlaces.get(i)) != desk.bookWays.get(i)) {
                return i;
            }
        }
        return NOTHING;
    }

    // ---- acts, the image

    public int act(int way, int act, int x) {
        trace.clear();
        Line doer = desk.wayOf(way);
        if (doer == null) {
            return 0;
        }
        switch (act) {
            case 0: return doer.writes(x, trace);
            case 1: return doer.shows(x, trace);
            case 2: return doer.tells(x, trace);
            default: return 0;
        }
    }

    public int trace(int i) {
        return trace.bodyAt(i);
    }

    public int as(int way, int k) {
        Line asked = desk.wayOf(way);
        if (asked == null || k < 0 || k > 6) {
            return NONE;
        }
        return isUnder(asked, k) ? asked.v : OTHER_KIND;
    }

    public int image() {
        kept.copyAll(desk);
        keptOne = true;
        return desk.wayCount();
    }

    public int undo() {
        if (!keptOne) {
            return STATE;
        }
        desk.copyAll(kept);
        return desk.wayCount();
    }

    public int count(int what) {
        switch (what) {
            case 0: return desk.wayCount();
            case 1: return desk.schools;
            case 2: return desk.places.size();
            case 3: return desk.shown.size();
            case 4: return desk.days.size();
            case 5: return desk.bookPlaces.size();
            case 6: return desk.tape.size();
            case 7: return trace.all;
            default: return NONE;
        }
    }

    // ---- what numbers may be

    private static boolean isDigit(int n) {
        return n >= 0 && n <= 9;
    }

    private static boolean isLength(int n) {
        return n >= 1 && n <= MOST_LINES;
    }

    private static boolean isPlace(int place) {
        return place >= 0 && place < MOST_LINES;
    }

    private static boolean isPence(int pence) {
        return pence >= 0 && pence <= MOST_PENCE;
    }

    private static boolean isCost(int n) {
        return n >= 0 && n <= MOST_COST;
    }

    private static boolean isEntry(int n) {
        return n >= -99 && n <= 99;
    }

    private static boolean isPart(int part) {
        return part == 0 || part == 1;
    }

    // ---- fractions

    private static long hundreds(int times) {
        long all = 1;
        for (int i = 0; i < times; i++) {
            all *= HUNDRED;
        }
        return all;
    }

    private static long lowest(long above, long below, int part) {
        if (!isPart(part) || below == 0) {
            return NO;
        }
        long most = common(Math.abs(above), Math.abs(below));
        if (most == 0) {
            return NO;
        }
        long divisor = below < 0 ? -most : most;
        return (part == 0 ? above : below) / divisor;
    }

    /** Two numbers below 2 to the 63rd take at most some ninety steps, so the bound never cuts. */
    private static long common(long a, long b) {
        for (int step = 0; step < 200 && b != 0; step++) {
            long rest = a % b;
            a = b;
            b = rest;
        }
        return a;
    }

    // ---- how to write, looked at closer

    /**
     * Seconds, k, first and second way as one number, in this order of weight: the least number is
     * then the one that is asked for, ties and all.
     */
    private int bestChangeAt(int k, int n, int pence) {
        int firsts = k == 0 ? 1 : desk.wayCount();
        int seconds = k == n ? 1 : desk.wayCount();
        int best = NEVER;
        for (int first = 0; first < firsts; first++) {
            int paid = desk.penceOf(first, k);
            int spent = desk.secondsOf(first, k);
            for (int second = 0; second < seconds; second++) {
                if (paid + desk.penceOf(second, n - k) <= pence) {
                    int all = spent + desk.secondsOf(second, n - k);
                    int ways = first * MOST_WAYS + second;
                    best = Math.min(best, (all * (MOST_LINES + 1) + k) * MOST_WAYS * MOST_WAYS + ways);
                }
            }
        }
        return best;
    }

    private int withRests(int way, int n, int r, int runs) {
        if (runs < 1) {
            return 0;
        }
        int smaller = n / runs;
        int greater = n % runs;
        return greater * desk.secondsOf(way, smaller + 1)
            + (runs - greater) * desk.secondsOf(way, smaller)
            + (runs - 1) * r;
    }

    /** The place that comes behind the one told, by sign downwards, then by place. */
    private int nextWhere(int sign, int place) {
        int best = NOWHERE;
        int bestSign = -1;
        for (int i = 0; i < desk.holding.want; i++) {
            int now = desk.signAt(i);
            boolean behind = now < sign || now == sign && i > place;
            if (behind && now > bestSign) {
                best = i;
                bestSign = now;
            }
        }
        return best;
    }

    private boolean couldBeBy(int way) {
        for (int i = 0; i < desk.shown.size(); i++) {
            int place = desk.shown.get(i);
            if (desk.signIf(place, place, way) == 0) {
                return false;
            }
        }
        return true;
    }

    private int bestStock(int over, int lack) {
        int best = 0;
        for (int n = 1; n <= 40; n++) {
            if (costOfStock(n, over, lack) < costOfStock(best, over, lack)) {
                best = n;
            }
        }
        return best;
    }

    /** Of all days together: each is as likely as another, so the least sum is the least mean. */
    private int costOfStock(int n, int over, int lack) {
        int sum = 0;
        for (int i = 0; i < desk.days.size(); i++) {
            int left = n - desk.days.get(i);
            sum += left > 0 ? left * over : -left * lack;
        }
        return sum;
    }

    // ---- kinds

    private static Line made(int kind, int number, int v, int slow) {
        switch (kind) {
            case 1: return new Twin(1, number, v, slow);
            case 2: return new Column(2, number, v, slow);
            case 3: return new Lent(3, number, v, slow);
            case 4: return new Triple(number, v, slow);
            case 5: return new Copied(number, v, slow);
            case 6: return new Told(number, v, slow, new int[4]);
            default: return new Line(0, number, v, slow);
        }
    }

    private static boolean isUnder(Line way, int kind) {
        switch (kind) {
            case 0: return true;
            case 1: return way instanceof Twin;
            case 2: return way instanceof Column;
            case 3: return way instanceof Lent;
            case 4: return way instanceof Triple;
            case 5: return way instanceof Copied;
            case 6: return way instanceof Told;
            default: return false;
        }
    }

    /** A way never changes once it is made, so an image may share it. */
    private static class Line {
        final int kind;
        final int number;
        final int v;
        final int slow;

        Line(int kind, int number, int v, int slow) {
            this.kind = kind;
            this.number = number;
            this.v = v;
            this.slow = slow;
        }

        int seconds(int n) {
            int tens = n / 10;
            int laterTens = 10 * (tens * (tens - 1) / 2) + n % 10 * tens;
            return n * slow + laterTens * v;
        }

        int pence(int n) {
            return 0;
        }

        int writes(int x, Trace trace) {
            trace.ran(1);
            return x + number;
        }

        int shows(int x, Trace trace) {
            trace.ran(2);
            return writes(x, trace) - v;
        }

        int tells(int x, Trace trace) {
            trace.ran(3);
            return shows(x, trace) * 2;
        }
    }

    private static class Twin extends Line {
        Twin(int kind, int number, int v, int slow) {
            super(kind, number, v, slow);
        }

        int seconds(int n) {
            return n / 2 * (slow + v) + n % 2 * slow;
        }

        int writes(int x, Trace trace) {
            trace.ran(11);
            return super.writes(x * 3, trace);
        }
    }

    private static class Column extends Line {
        Column(int kind, int number, int v, int slow) {
            super(kind, number, v, slow);
        }

        int seconds(int n) {
            return n * (slow / 2) + v;
        }

        int shows(int x, Trace trace) {
            trace.ran(21);
            return -super.shows(x, trace);
        }
    }

    private static class Lent extends Line {
        Lent(int kind, int number, int v, int slow) {
            super(kind, number, v, slow);
        }

        int seconds(int n) {
            return 0;
        }

        int pence(int n) {
            return n * v;
        }

        int tells(int x, Trace trace) {
            trace.ran(31);
            return super.tells(x, trace) ^ 7;
        }
    }

    private static final class Triple extends Twin {
        Triple(int number, int v, int slow) {
            super(4, number, v, slow);
        }

        int seconds(int n) {
            return n / 3 * (slow + 2 * v) + super.seconds(n % 3);
        }

        int tells(int x, Trace trace) {
            trace.ran(41);
            return super.tells(x - 1, trace) + writes(2, trace);
        }
    }

    private static final class Copied extends Column {
        Copied(int number, int v, int slow) {
            super(5, number, v, slow);
        }

        int seconds(int n) {
            return super.seconds((n + 1) / 2) + n / 2;
        }

        int writes(int x, Trace trace) {
            trace.ran(51);
            return super.writes(x, trace) ^ number;
        }
    }

    private static final class Told extends Lent {
        private final int[] row;

        Told(int number, int v, int slow, int[] row) {
            super(6, number, v, slow);
            this.row = row;
        }

        int rowAt(int k) {
            return k >= 0 && k < row.length ? row[k] : 0;
        }

        Told withRow(int k, int n) {
            int[] next = row.clone();
            if (k >= 0 && k < next.length) {
                next[k] = n;
            }
            return new Told(number, v, slow, next);
        }

        int seconds(int n) {
            return rowAt(n % 4);
        }

        int shows(int x, Trace trace) {
            trace.ran(61);
            return super.shows(x, trace) + v;
        }
    }

    /** The bodies that ran: how many is counted on where they are no longer kept. */
    private static final class Trace {
        private final int[] bodies = new int[20];
        int all;

        void clear() {
            all = 0;
        }

        void ran(int body) {
            if (all >= 0 && all < bodies.length) {
                bodies[all] = body;
            }
            all++;
        }

        int bodyAt(int i) {
            return i >= 0 && i < all && i < bodies.length ? bodies[i] : NONE;
        }
    }

    /** A row of numbers with a bound; -1 stands where it has none, as MISSING and an end do. */
    private static final class Numbers {
        private final int[] items;
        private int size;

        Numbers(int most) {
            items = new int[Math.max(0, most)];
        }

        int size() {
            return size;
        }

        boolean hasPlace(int i) {
            return i >= 0 && i < size;
        }

        int get(int i) {
            return i >= 0 && i < size && i < items.length ? items[i] : -1;
        }

        boolean add(int n) {
            if (size < 0 || size >= items.length) {
                return false;
            }
            items[size] = n;
            size++;
            return true;
        }

        void clear() {
            size = 0;
        }

        int timesOf(int n) {
            int times = 0;
            for (int i = 0; i < size; i++) {
                if (get(i) == n) {
                    times++;
                }
            }
            return times;
        }

        void copy(Numbers other) {
            clear();
            for (int i = 0; i < other.size; i++) {
                add(other.get(i));
            }
        }
    }

    /** All that there is but the image and the trace, so that an image is one copy. */
    private static final class Desk {
        private final Line[] ways = new Line[MOST_WAYS];
        private int wayCount;
        School holding = new School();
        int schools;
        final Numbers tape = new Numbers(MOST_SIGNS);
        final Numbers sheet = new Numbers(MOST_LINES);
        int spent;
        int paid;
        final Numbers places = new Numbers(5);
        final Numbers shown = new Numbers(6);
        final Numbers days = new Numbers(8);
        final Numbers bookPlaces = new Numbers(8);
        final Numbers bookWays = new Numbers(8);

        void copyAll(Desk other) {
            for (int i = 0; i < ways.length && i < other.ways.length; i++) {
                ways[i] = other.ways[i];
            }
            wayCount = other.wayCount;
            holding = other.holding;
            schools = other.schools;
            tape.copy(other.tape);
            sheet.copy(other.sheet);
            spent = other.spent;
            paid = other.paid;
            places.copy(other.places);
            shown.copy(other.shown);
            days.copy(other.days);
            bookPlaces.copy(other.bookPlaces);
            bookWays.copy(other.bookWays);
        }

        int wayCount() {
            return wayCount;
        }

        /** Null, if there is no such way. */
        Line wayOf(int way) {
            return way >= 0 && way < wayCount && way < ways.length ? ways[way] : null;
        }

        boolean addWay(Line way) {
            if (wayCount < 0 || wayCount >= ways.length) {
                return false;
            }
            ways[wayCount] = way;
            wayCount++;
            return true;
        }

        void putWay(int number, Line way) {
            if (number >= 0 && number < wayCount && number < ways.length) {
                ways[number] = way;
            }
        }

        /** No lines are no run: they take nothing, whatever the way. */
        int secondsOf(int way, int n) {
            Line by = wayOf(way);
            return by == null || n < 1 ? 0 : by.seconds(n);
        }

        int penceOf(int way, int n) {
            Line by = wayOf(way);
            return by == null || n < 1 ? 0 : by.pence(n);
        }

        /** The last and the middle one fall together with another for a want of 1 and 2. */
        int placeCount() {
            if (places.size() > 0) {
                return places.size();
            }
            return Math.min(Math.min(holding.look, 3), holding.want);
        }

        int placeAt(int i) {
            if (places.size() > 0) {
                return places.get(i);
            }
            switch (i) {
                case 0: return 0;
                case 1: return holding.want - 1;
                default: return holding.want / 2;
            }
        }

        int signAt(int place) {
            return signIf(place, NOWHERE, MISSING);
        }

        /** The sign at a place, were the line at the place tried by the way told. */
        int signIf(int place, int tried, int way) {
            Line by = wayOf(numberIf(place, tried, way));
            if (by == null) {
                return HUNDRED;
            }
            boolean same = place > 0 && numberIf(place - 1, tried, way) == by.number;
            return holding.signOf(by, place, same ? 1 : 0);
        }

        private int numberIf(int place, int tried, int way) {
            return place == tried ? way : sheet.get(place);
        }

        long unseenNow() {
            return unseenIf(NOWHERE, MISSING);
        }

        /** How likely nothing is seen, were the line tried by the way told: of a hundred for each place. */
        long unseenIf(int tried, int way) {
            if (holding.count != 0 && writtenIf(tried, way) < holding.want) {
                return 0;
            }
            long above = 1;
            for (int i = 0; i < placeCount(); i++) {
                above *= HUNDRED - signIf(placeAt(i), tried, way);
            }
            return above;
        }

        private int writtenIf(int tried, int way) {
            int written = 0;
            for (int i = 0; i < sheet.size(); i++) {
                if (numberIf(i, tried, way) != MISSING) {
                    written++;
                }
            }
            return written;
        }
    }

    /**
     * Clauses, as numbers in the order of a stack machine. What reads answers the place behind what
     * it read or, below 0, -1 less the place of the fault; such a one goes through all that follows.
     */
    private static final class School {
        private static final int MOST_CLAUSES = 10;
        private static final int MOST_OPEN = 5;
        private static final int NOT = 2000;
        private static final int AND = 2001;
        private static final int OR = 2002;
        private static final int SEES = 3000;
        private static final String LETTERS = "wkvlmp";
        private static final String SIGNS = "<=>";

        int want = 20;
        int look = 3;
        int count;
        private final int[] codes = new int[MOST_SIGNS];
        private int size;

        /** The place of the fault, or -1. */
        int read(Numbers text) {
            int at = 0;
            for (int clauses = 1; at >= 0 && clauses <= MOST_CLAUSES; clauses++) {
                at = clause(text, at);
                if (at == text.size()) {
                    return -1;
                }
                at = clauses == MOST_CLAUSES ? stuck(at) : expect(text, at, ';');
            }
            return -1 - at;
        }

        private static int stuck(int at) {
            return at < 0 ? at : -1 - at;
        }

        private static int expect(Numbers text, int at, int sign) {
            return at >= 0 && text.get(at) == sign ? at + 1 : stuck(at);
        }

        private int clause(Numbers text, int at) {
            switch (text.get(at)) {
                case 'w': return setting(text, at, "want ");
                case 'l': return setting(text, at, "look ");
                case 'c': return setting(text, at, "count ");
                case 's': return sees(text, at);
                default: return stuck(at);
            }
        }

        private int setting(Numbers text, int at, String word) {
            int from = words(text, at, word);
            int to = digits(text, from);
            if (to < 0) {
                return to;
            }
            int n = valueOf(text, from, to);
            switch (text.get(at)) {
                case 'w': want = Math.max(1, Math.min(40, n)); break;
                case 'l': look = Math.max(1, Math.min(5, n)); break;
                default: count = n; break;
            }
            return to;
        }

        private int sees(Numbers text, int at) {
            int from = words(text, at, "sees ");
            int to = digits(text, from);
            int end = either(text, expect(text, to, ' '), 0);
            if (end >= 0) {
                put(SEES + valueOf(text, from, to));
            }
            return end;
        }

        private static int words(Numbers text, int at, String word) {
            int next = at;
            for (int i = 0; i < word.length(); i++) {
                next = expect(text, next, word.charAt(i));
            }
            return next;
        }

        private static int digits(Numbers text, int at) {
            if (!isFigure(text.get(at))) {
                return stuck(at);
            }
            return text.get(at) != '0' && isFigure(text.get(at + 1)) ? at + 2 : at + 1;
        }

        private static boolean isFigure(int sign) {
            return sign >= '0' && sign <= '9';
        }

        private static int valueOf(Numbers text, int from, int to) {
            int value = 0;
            for (int i = from; i < to; i++) {
                value = value * 10 + text.get(i) - '0';
            }
            return value;
        }

        private int either(Numbers text, int at, int open) {
            int next = both(text, at, open);
            for (int i = 0; i < MOST_SIGNS && text.get(next) == '|'; i++) {
                next = both(text, next + 1, open);
                put(OR);
            }
            return next;
        }

        private int both(Numbers text, int at, int open) {
            int next = single(text, at, open);
            for (int i = 0; i < MOST_SIGNS && text.get(next) == '&'; i++) {
                next = single(text, next + 1, open);
                put(AND);
            }
            return next;
        }

        private int single(Numbers text, int at, int open) {
            int sign = text.get(at);
            if (sign != '!' && sign != '(') {
                return test(text, at);
            }
            if (open >= MOST_OPEN) {
                return stuck(at);
            }
            if (sign == '(') {
                return expect(text, either(text, at + 1, open + 1), ')');
            }
            int next = single(text, at + 1, open + 1);
            put(NOT);
            return next;
        }

        private int test(Numbers text, int at) {
            int letter = placeIn(LETTERS, text.get(at));
            if (letter < 0) {
                return stuck(at);
            }
            int sign = placeIn(SIGNS, text.get(at + 1));
            if (sign < 0) {
                return stuck(at + 1);
            }
            int to = digits(text, at + 2);
            if (to >= 0) {
                put(letter * 300 + sign * 100 + valueOf(text, at + 2, to));
            }
            return to;
        }

        private static int placeIn(String signs, int sign) {
            return sign < 0 ? -1 : signs.indexOf((char) sign);
        }

        private void put(int code) {
            if (size >= 0 && size < codes.length) {
                codes[size] = code;
                size++;
            }
        }

        /** The stack is the bits of one number: what is open at once keeps it below twenty deep. */
        int signOf(Line way, int place, int same) {
            int stack = 0;
            int sum = 0;
            for (int i = 0; i < size && i < codes.length; i++) {
                int code = codes[i];
                int top = stack & 1;
                if (code >= SEES) {
                    sum += top == 1 ? code - SEES : 0;
                    stack = 0;
                } else if (code == NOT) {
                    stack ^= 1;
                } else if (code == AND) {
                    stack = stack >> 1 & (top | ~1);
                } else if (code == OR) {
                    stack = stack >> 1 | top;
                } else {
                    stack = stack << 1 | (holds(code, way, place, same) ? 1 : 0);
                }
            }
            return Math.min(sum, HUNDRED);
        }

        private static boolean holds(int code, Line way, int place, int same) {
            int value = valueAsked(code / 300, way, place, same);
            int number = code % 100;
            switch (code / 100 % 3) {
                case 0: return value < number;
                case 1: return value == number;
                default: return value > number;
            }
        }

        private static int valueAsked(int letter, Line way, int place, int same) {
            switch (letter) {
                case 0: return way.number;
                case 1: return way.kind;
                case 2: return way.v;
                case 3: return place / 10;
                case 4: return place % 10;
                default: return same;
            }
        }
    }
}
