/**
 * Sentences of 'Terms' and of the promises that name no bound, whole: what each of their words says
 * is tried where another reading of it would answer otherwise.
 */
public final class TermsTest {
    private static final int NONE = -1, BAD = -2, FULL = -4;
    private static final long NO = Long.MIN_VALUE;
    /** The kind above each one. */
    private static final int[] ABOVE = {-1, 0, 0, 0, 1, 2, 3};

    public static void main(String[] args) {
        kinds();
        readFromTheTape();
        ofALine();
        ofARun();
        twice();
        change();
        where();
        cost();
        bodies();
        bodyOfItsKind();
        fromTheKindAbove();
        fromTheLeft();
        told();
        refusals();
        Due.end("TermsTest");
    }

    private static TwoPens one(int kind, int v, int slow) {
        TwoPens x = new TwoPens();
        x.way(kind, v, slow);
        return x;
    }

    /** Ways of the kinds told, the number is the place in them, v is 1 and SLOW 10. */
    private static TwoPens ways(int... kinds) {
        TwoPens x = new TwoPens();
        for (int kind : kinds) x.way(kind, 1, 10);
        return x;
    }

    private static void kinds() {
        Due.sentence("WAYS are numbered from 0 on, 6 at most, each of a KIND: 0 LINE; 1 TWIN, 2 COLUMN, 3 LENT under LINE; 4 TRIPLE under TWIN; 5 COPIED under COLUMN; 6 TOLD under LENT;");
        TwoPens x = new TwoPens();
        int[] kinds = {6, 5, 4, 3, 2, 1};
        for (int i = 0; i < 6; i++) {
            Due.is("number", x.way(kinds[i], i, 60 - i), i);
        }
        for (int i = 0; i < 6; i++) {
            Due.is("KIND of " + i, x.of(i, 0), kinds[i]);
            Due.is("v of " + i, x.of(i, 1), i);
            Due.is("SLOW of " + i, x.of(i, 2), 60 - i);
            for (int k = 0; k < 7; k++) {
                Due.is(i + " as " + k, x.as(i, k), under(kinds[i], k) ? i : -6);
            }
        }
        Due.is("a LINE", one(0, 7, 1).of(0, 0), 0);
        Due.is("a LINE as such", one(0, 7, 1).as(0, 0), 7);
    }

    private static boolean under(int kind, int k) {
        for (int above = kind; above >= 0; above = ABOVE[above]) {
            if (above == k) return true;
        }
        return false;
    }

    /** In the order of its signs, whatever came between; nothing of it holds until it is read. */
    private static void readFromTheTape() {
        Due.sentence("A SCHOOL is read from THE TAPE (bytes, 100 at most)");
        String text = "want 7;look 2;count 1;sees 30 w=0";
        TwoPens x = new TwoPens();
        for (int i = 0; i < text.length(); i++) {
            Due.is("sign " + i, x.feed(text.charAt(i)), i + 1);
            x.way(0, i % 10, 1);
            x.act(0, i % 3, i);
            if (i == 5) x.write(0, 4);
            if (i == 9) Due.is("a refused sign is none", x.feed(128), BAD);
            Due.is("not read yet", x.told(3), 20);
            Due.is("not read yet", x.line(0, 1), i < 5 ? NONE : 0);
        }
        Due.is("read", x.school(), 0);
        Due.is("WANT", x.told(3), 7);
        Due.is("LOOK", x.told(4), 2);
        Due.is("count", x.told(5), 1);
        Due.is("SIGN", x.line(0, 1), 30);
        Due.is("what was read does not come again", x.school(), -10);
        Due.is("the other way round it is none", Due.school(new TwoPens(), "1 tnaw"), -10);
    }

    private static void ofALine() {
        Due.sentence("of a line of THE SHEET w the number of its WAY, k its KIND, v its v, l its place by 10 (cut), m its place modulo 10, p whether the line ahead of it is by the same WAY (1, 0; at place 0: 0).");
        int[] kinds = {3, 0, 6, 2};
        int[] vs = {5, 9, 0, 7};
        int[] by = new int[40];
        for (int i = 0; i < 40; i++) by[i] = i % 7 == 4 ? -1 : i / 3 % 4;
        for (int n = 0; n < 10; n++) {
            for (char letter : "wkvlmp".toCharArray()) {
                TwoPens x = sheet(kinds, vs, by);
                Due.school(x, "sees 1 " + letter + "=" + n + ";sees 2 " + letter + "<" + n + ";sees 4 " + letter + ">" + n);
                for (int i = 0; i < 40; i++) {
                    int value = by[i] < 0 ? -1 : asked(letter, i, by, kinds, vs);
                    int due = by[i] < 0 ? 100 : value == n ? 1 : value < n ? 2 : 4;
                    Due.is(letter + " against " + n + " at " + i, x.line(i, 1), due);
                }
            }
        }
    }

    private static TwoPens sheet(int[] kinds, int[] vs, int[] by) {
        TwoPens x = new TwoPens();
        for (int i = 0; i < kinds.length; i++) x.way(kinds[i], vs[i], 1);
        for (int way : by) x.write(way, 1);
        return x;
    }

    private static int asked(char letter, int place, int[] by, int[] kinds, int[] vs) {
        switch (letter) {
            case 'w': return by[place];
            case 'k': return kinds[by[place]];
            case 'v': return vs[by[place]];
            case 'l': return place / 10;
            case 'm': return place % 10;
            default: return place > 0 && by[place - 1] == by[place] ? 1 : 0;
        }
    }

    /** The j-th line of the RUN, not of THE SHEET; what two RUNS leave over makes no pair. */
    private static void ofARun() {
        Due.sentence("SECONDS of a RUN of n lines: LINE: SLOW for each, and for the j-th (from 0 on) j by 10 (cut) times v more.");
        TwoPens x = one(0, 9, 10);
        for (int i = 1; i <= 4; i++) {
            x.write(0, 10);
            Due.is("tens of LINE apart", x.told(1), 100 * i);
        }
        x.tear();
        x.write(0, 40);
        Due.is("forty of LINE at once", x.told(1), 400 + 10 * 9 * (1 + 2 + 3));
        TwoPens y = one(1, 3, 12);
        y.write(0, 1);
        y.write(0, 1);
        Due.is("two RUNS of TWIN", y.told(1), 24);
        y.tear();
        y.write(0, 2);
        Due.is("one RUN of TWIN", y.told(1), 15);
        TwoPens z = one(6, 0, 1);
        z.row(0, 1, 5);
        z.row(0, 2, 7);
        z.write(0, 1);
        z.write(0, 1);
        z.write(0, 2);
        Due.is("RUNS of TOLD by their own n", z.told(1), 5 + 5 + 7);
        TwoPens c = one(2, 5, 9);
        c.write(0, 3);
        c.write(-1, 3);
        c.write(0, 3);
        Due.is("v of COLUMN once a RUN, none for MISSING ones", c.told(1), 2 * (12 + 5));
    }

    /** The first one looks where he looked; a place that both look at is looked at twice. */
    private static void twice() {
        Due.sentence("TWICE of another LOOK: if the same sheet is shown to a second one, too, who looks at the last so many (1 .. 4; at all of them, if WANT is less) places of WANT: how likely neither SEES anything (each by itself at each place; both count, if he does).");
        TwoPens x = ways(0, 1);
        Due.school(x, "want 8;look 1;sees 10 m=0;sees 20 m=7;sees 50 m=6;sees 90 m=9");
        x.write(0, 12);
        twice(x, 1, 90 * 80, 10000);
        twice(x, 2, 90 * 80 * 50, 1000000);
        twice(x, 3, 90 * 80 * 50, 1000000);
        x.looks(7);
        twice(x, 1, 80 * 80, 10000);
        x.looks(9);
        twice(x, 1, 80 * 10 * 80, 1000000);
        x.looks(-1);
        Due.school(x, "want 8;look 2;sees 10 m=0;sees 20 m=7");
        twice(x, 1, 90 * 80 * 80, 1000000);
        Due.is("the sheet stays as it is", x.told(0), 12);
        Due.is("his own places stay", x.told(11), 7);
        Due.is("no third", x.told(12), NONE);
    }

    private static void twice(TwoPens x, int look, long above, long below) {
        long common = common(above, below);
        Due.is("twice(" + look + ") above", x.twice(look, 0), above / common);
        Due.is("twice(" + look + ") below", x.twice(look, 1), below / common);
    }

    private static long common(long a, long b) {
        return b == 0 ? a : common(b, a % b);
    }

    private static void change() {
        Due.sentence("that with the fewest SECONDS: how many; the first WAY; k; the second one (of several the least k, then first, then second; a WAY is 0 where there are no lines).");
        TwoPens x = ways(3, 1, 2);
        int[] due = {4 * 5 + 1, 0, 3, 2};
        for (int what = 0; what < 4; what++) {
            Due.is("change(7, 3, " + what + ")", x.change(7, 3, what), due[what]);
        }
        TwoPens y = ways(2, 1);
        y.way(6, 0, 1);
        for (int k = 0; k < 4; k++) y.row(2, k, 9);
        y.row(2, 3, 0);
        int[] none = {0, 2, 3, 2};
        for (int what = 0; what < 4; what++) {
            Due.is("change(6, 0, " + what + ")", y.change(6, 0, what), none[what]);
        }
        Due.is("nothing is written", y.told(0) + y.told(1), 0);
    }

    private static void where() {
        Due.sentence("WHERE for the master: the k-th, from the greatest SIGN down, of as many places as LOOK tells, those of WANT with the greatest SIGN (of several the first; places beyond THE SHEET as MISSING).");
        TwoPens x = ways(0);
        x.write(0, 10);
        Due.school(x, "want 10;look 5;sees 30 m=4;sees 20 m=1;sees 20 m=8;sees 10 m=9;sees 5 m<9");
        whereIs(x, 4, 1, 8, 9, 0);
        x.looks(2);
        x.looks(3);
        whereIs(x, 4, 1, 8, 9, 0);
        Due.school(x, "want 9;look 4;sees 30 m=4;sees 20 m=1;sees 20 m=8;sees 90 m=9");
        whereIs(x, 4, 1, 8, 0);
        Due.school(x, "want 12;look 5;sees 30 m=4;sees 20 m=1");
        whereIs(x, 10, 11, 4, 1, 0);
        Due.school(x, "want 3;look 5;sees 30 m=4;sees 20 m=1");
        whereIs(x, 1, 0, 2);
        x.tear();
        whereIs(x, 0, 1, 2);
        x.write(0, 1);
        x.write(-1, 1);
        whereIs(x, 1, 2, 0);
    }

    private static void whereIs(TwoPens x, int... due) {
        for (int k = 0; k < 6; k++) {
            Due.is("where(" + k + ")", x.where(k), k < due.length ? due[k] : NONE);
        }
    }

    /** Asked: nothing is written, and what is written already is no matter. */
    private static void cost() {
        Due.sentence("COST of a WAY for n lines in a RUN (SECONDS; PENCE).");
        TwoPens x = ways(0, 1, 2, 3, 4, 5);
        int[] seconds = {110 + 1, 5 * 11 + 10, 11 * 5 + 1, 0, 3 * 12 + 11, 6 * 5 + 1 + 5};
        for (int round = 0; round < 2; round++) {
            for (int way = 0; way < 6; way++) {
                Due.is("SECONDS of " + way, x.cost(way, 11, 0), seconds[way]);
                Due.is("PENCE of " + way, x.cost(way, 11, 1), way == 3 ? 11 : 0);
            }
            Due.is("nothing is written", x.told(0) + x.told(1) + x.told(2), 0);
            if (round == 0) {
                x.write(0, 15);
                x.write(3, 25);
                Due.is("written", x.told(1) * 100 + x.told(2), 15500 + 25);
                Due.is("a RUN of forty beside a full sheet", x.cost(3, 40, 1), 40);
                x.tear();
            }
        }
        TwoPens t = one(6, 2, 60);
        Due.is("a ROW that is not told", t.cost(0, 11, 0), 0);
        t.row(0, 3, 8);
        Due.is("a ROW that is told", t.cost(0, 11, 0), 8);
        Due.is("its PENCE", t.cost(0, 11, 1), 22);
    }

    private static void act(TwoPens x, int way, int act, int n, int due, int... bodies) {
        String call = "act(" + way + ", " + act + ", " + n + ")";
        Due.is(call, x.act(way, act, n), due);
        Due.is(call + " bodies", x.count(7), bodies.length);
        for (int i = 0; i < bodies.length; i++) {
            Due.is(call + " body " + i, x.trace(i), bodies[i]);
        }
    }

    /** Way 0 is of no matter; the others are of one KIND each, v is 2. */
    private static void bodies() {
        Due.sentence("BODIES: LINE: 1 writes: x + i. 2 shows: writes(x) - v. 3 tells: shows(x) * 2. TWIN: 11 writes: super.writes(x * 3). COLUMN: 21 shows: -super.shows(x). LENT: 31 tells: super.tells(x) ^ 7. TRIPLE: 41 tells: super.tells(x - 1) + writes(2). COPIED: 51 writes: super.writes(x) ^ i. TOLD: 61 shows: super.shows(x) + v.");
        TwoPens x = new TwoPens();
        for (int kind : new int[] {0, 0, 1, 2, 3, 4}) x.way(kind, 2, 1);
        act(x, 1, 0, 100, 101, 1);
        act(x, 1, 1, 100, 99, 2, 1);
        act(x, 1, 2, 100, 198, 3, 2, 1);
        act(x, 2, 0, 100, 302, 11, 1);
        act(x, 3, 1, 100, -101, 21, 2, 1);
        act(x, 4, 2, 100, 204 ^ 7, 31, 3, 2, 1);
        act(x, 5, 2, 100, (297 + 5 - 2) * 2 + (6 + 5), 41, 3, 2, 11, 1, 11, 1);
        TwoPens y = new TwoPens();
        for (int kind : new int[] {0, 5, 6}) y.way(kind, 2, 1);
        act(y, 1, 0, 100, 101 ^ 1, 51, 1);
        act(y, 2, 1, 100, 102, 61, 2, 1);
    }

    /** What a body of LINE asks for is that of the way's own KIND, though that is under LINE by two. */
    private static void bodyOfItsKind() {
        Due.sentence("writes(..) and so on: the body of its KIND, or, if that has none, of the next KIND above that has one;");
        TwoPens x = ways(4, 5, 6);
        act(x, 0, 0, 1, 3, 11, 1);
        act(x, 0, 1, 1, 2, 2, 11, 1);
        act(x, 1, 0, 1, 2 ^ 1, 51, 1);
        act(x, 1, 1, 1, -((2 ^ 1) - 1), 21, 2, 51, 1);
        act(x, 1, 2, 1, -4, 3, 21, 2, 51, 1);
        act(x, 2, 0, 1, 3, 1);
        act(x, 2, 1, 1, 3, 61, 2, 1);
        act(x, 2, 2, 1, 6 ^ 7, 31, 3, 61, 2, 1);
    }

    /** TRIPLE's super.tells finds none in TWIN, COPIED's super.writes none in COLUMN, TOLD's super.shows none in LENT. */
    private static void fromTheKindAbove() {
        Due.sentence("super.writes(..): so from the KIND above the body's on;");
        TwoPens x = ways(4, 5, 6, 1, 2, 3);
        act(x, 0, 2, 3, (2 * 3 - 1) * 2 + 6, 41, 3, 2, 11, 1, 11, 1);
        act(x, 1, 0, 3, 4 ^ 1, 51, 1);
        act(x, 2, 1, 3, 5, 61, 2, 1);
        act(x, 3, 0, 3, 12, 11, 1);
        act(x, 4, 1, 3, -6, 21, 2, 1);
        act(x, 5, 2, 3, 14 ^ 7, 31, 3, 2, 1);
    }

    /** A body begins ahead of those that it asks for; super.tells(x - 1) runs whole ahead of writes(2). */
    private static void fromTheLeft() {
        Due.sentence("what stands in a body is done from the left on.");
        TwoPens x = ways(4);
        x.act(0, 2, 9);
        int[] due = {41, 3, 2, 11, 1, 11, 1};
        for (int i = 0; i < due.length; i++) {
            Due.is("body " + i, x.trace(i), due[i]);
        }
        Due.is("none behind", x.trace(7), NONE);
    }

    private static void told() {
        Due.sentence("What 0 lines, 1 SPENT, 2 PAID, 3 WANT, 4 LOOK, 5 count, 6 how many are MISSING, 10 and k the k-th of PLACES where he looks.");
        TwoPens x = one(0, 0, 7);
        x.way(3, 3, 1);
        x.write(0, 4);
        x.write(-1, 3);
        x.write(1, 6);
        Due.school(x, "want 11;look 2;count 9");
        int[] due = {13, 28, 18, 11, 2, 9, 3, NONE, NONE, NONE, 0, 10, NONE};
        for (int what = 0; what < due.length; what++) {
            Due.is("told(" + what + ")", x.told(what), due[what]);
        }
        x.looks(30);
        x.looks(2);
        x.looks(31);
        int[] places = {30, 2, 31, NONE};
        for (int k = 0; k < 4; k++) {
            Due.is("told(" + (10 + k) + ")", x.told(10 + k), places[k]);
        }
        Due.is("LOOK stays", x.told(4), 2);
    }

    /** NONE ahead of BAD, BAD ahead of STATE and of FULL; only school() tells FULL ahead of all. */
    private static void refusals() {
        Due.sentence("REFUSALS, of several the first one told: NONE there is no such WAY, KIND, place, what, part, k, i; BAD a number is not as told; STATE as told; FULL. They change nothing.");
        Watch.unchanged("NONE, BAD, FULL of way", Watch::full, x -> x.way(7, 10, 0), NONE);
        Watch.unchanged("BAD, FULL of way", Watch::full, x -> x.way(6, 10, 0), BAD);
        Watch.unchanged("FULL of way", Watch::full, x -> x.way(6, 9, 60), FULL);
        Watch.unchanged("NONE, BAD, STATE of row", Watch::full, x -> x.row(1, 4, 10), NONE);
        Watch.unchanged("BAD, STATE of row", Watch::full, x -> x.row(1, 3, 10), BAD);
        Watch.unchanged("STATE of row", Watch::full, x -> x.row(1, 3, 9), TwoPens.STATE);
        Watch.unchanged("NONE, BAD, FULL of write", Watch::full, x -> x.write(6, 41), NONE);
        Watch.unchanged("BAD, FULL of write", Watch::full, x -> x.write(5, 41), BAD);
        Watch.unchanged("FULL of write", Watch::full, x -> x.write(5, 1), FULL);
        Watch.unchanged("NONE, BAD, FULL of book", Watch::full, x -> x.book(40, 6), NONE);
        Watch.unchanged("BAD, FULL of book", Watch::full, x -> x.book(40, 5), BAD);
        Watch.unchanged("FULL of book", Watch::full, x -> x.book(39, 5), FULL);
        Watch.unchanged("BAD, FULL of feed", Watch::full, x -> x.feed(128), BAD);
        Watch.unchanged("BAD, FULL of looks", Watch::full, x -> x.looks(40), BAD);
        Watch.unchanged("NONE, FULL of show", Watch::full, x -> x.show(40), NONE);
        Watch.unchanged("BAD, FULL of wanted", Watch::full, x -> x.wanted(41), BAD);
        Watch.unchanged("FULL of school ahead of a FAULT", Watch::full, TwoPens::school, FULL);
        Watch.unchanged("NONE, BAD of cost", Watch::some, x -> x.cost(0, 0, 2), NONE);
        Watch.unchanged("NONE, BAD of rests", Watch::some, x -> x.rests(0, 0, 100, 2), NONE);
        Watch.unchanged("NONE, BAD of quick", Watch::some, x -> x.quick(0, -1, 2), NONE);
        Watch.unchanged("NONE, BAD of change", Watch::some, x -> x.change(0, -1, 4), NONE);
        Watch.unchanged("NO of mean", Watch::some, x -> x.mean(0, 0, 2), NO);
    }
}
