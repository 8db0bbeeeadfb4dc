/** The bounds of what is seen and how to write, sentence by sentence: 'Terms' part 2, promises 13 to 22. */
public final class AskedBoundsTest {
    private static final int NONE = -1, BAD = -2, NOTHING = -5;
    private static final long NO = Long.MIN_VALUE;
    private static final int[] FAR = {Integer.MIN_VALUE, Integer.MAX_VALUE};

    public static void main(String[] args) {
        safe();
        safeRefused();
        again();
        againRefused();
        twiceLooks();
        twiceCounts();
        twiceRefused();
        quickPence();
        quickLines();
        quickRefused();
        changeLines();
        changePence();
        changeTies();
        changeWithoutLines();
        changeRefused();
        restsRuns();
        restsEven();
        restsRefused();
        mendOnTheSheet();
        mendGreater();
        mendRefused();
        where();
        whereRefused();
        left();
        leftAtPlaces();
        longest();
        longestRefused();
        asksChangeNothing();
        Due.end("AskedBoundsTest");
    }

    private static TwoPens one(int kind, int v, int slow) {
        TwoPens x = new TwoPens();
        x.way(kind, v, slow);
        return x;
    }

    /** Forty lines by one way, under the school told. */
    private static TwoPens forty(String text) {
        TwoPens x = one(0, 0, 1);
        x.write(0, 40);
        Due.school(x, text);
        return x;
    }

    private static void fraction(String call, long above, long below, long dueAbove, long dueBelow) {
        Due.is(call + " above", above, dueAbove);
        Due.is(call + " below", below, dueBelow);
    }

    private static void safe(TwoPens x, String call, long above, long below) {
        fraction(call, x.safe(0), x.safe(1), above, below);
    }

    private static void safe() {
        Due.sentence("SAFE: how likely nothing is SEEN at all PLACES: a fraction in lowest terms.");
        safe(new TwoPens(), "nothing written", 0, 1);
        safe(forty("want 40"), "no signs", 1, 1);
        safe(forty("look 1;sees 1 w=0"), "sign 1", 99, 100);
        safe(forty("look 1;sees 99 w=0"), "sign 99", 1, 100);
        safe(forty("look 1;sees 99 w=0;sees 1 w=0"), "sign 100", 0, 1);
        safe(forty("look 1;sees 99 w=0;sees 9 w=0"), "signs beyond 100", 0, 1);
        safe(forty("look 1;sees 50 w=0"), "lowest terms", 1, 2);
        safe(forty("look 2;sees 98 w=0"), "lowest terms of two", 1, 2500);
        safe(forty("want 1;look 5;sees 99 w=0"), "one place", 1, 100);
        TwoPens x = forty("sees 99 w=0");
        for (int i = 0; i < 5; i++) x.looks(i);
        safe(x, "five places", 1, 10000000000L);
        TwoPens y = forty("sees 1 w=0");
        for (int i = 35; i < 40; i++) y.looks(i);
        safe(y, "five places", 9509900499L, 10000000000L);
        TwoPens z = forty("sees 50 m=4");
        for (int i = 0; i < 5; i++) z.looks(i);
        safe(z, "the fifth place alone", 1, 2);
    }

    private static void safeRefused() {
        Due.sentence("`long safe(int part)`: SAFE. NO: part.");
        Due.is("part 0", forty("look 1;sees 1 w=0").safe(0), 99);
        Due.is("part 1", forty("look 1;sees 1 w=0").safe(1), 100);
        for (int part : new int[] {-1, 2, FAR[0], FAR[1]}) {
            Watch.refused("safe(" + part + ")", y -> y.safe(part), NO);
        }
    }

    private static void again(TwoPens x, String call, long above, long below) {
        fraction(call, x.again(0), x.again(1), above, below);
    }

    private static void again() {
        Due.sentence("AGAIN: lines that are to be written in the mean, if WANT are to be written once more when something is SEEN: a fraction in lowest terms (WANT, and WANT times how likely it is SEEN).");
        again(new TwoPens(), "surely seen", 40, 1);
        again(forty("want 40;count 1"), "never seen", 40, 1);
        again(forty("want 0"), "never seen, the least", 1, 1);
        again(forty("want 1;sees 99 w=0;sees 9 w=0"), "surely seen, the least", 2, 1);
        again(forty("want 40;sees 99 w=0;sees 9 w=0"), "surely seen, the most", 80, 1);
        again(forty("want 1;sees 1 w=0"), "hardly seen", 101, 100);
        again(forty("want 1;sees 99 w=0"), "nearly surely", 199, 100);
        TwoPens x = forty("want 39;sees 99 w=0");
        for (int i = 0; i < 5; i++) x.looks(i);
        again(x, "five places", 39L * (20000000000L - 1), 10000000000L);
        TwoPens y = one(0, 0, 1);
        y.write(0, 39);
        Due.school(y, "want 40;look 1;count 1");
        again(y, "one too few", 80, 1);
        y.write(0, 1);
        again(y, "enough", 40, 1);
    }

    private static void againRefused() {
        Due.sentence("`long again(int part)`: AGAIN. NO: part.");
        Due.is("part 0", forty("want 1;sees 1 w=0").again(0), 101);
        Due.is("part 1", forty("want 1;sees 1 w=0").again(1), 100);
        for (int part : new int[] {-1, 2, FAR[0], FAR[1]}) {
            Watch.refused("again(" + part + ")", y -> y.again(part), NO);
        }
    }

    private static void twice(TwoPens x, int look, long above, long below) {
        fraction("twice(" + look + ")", x.twice(look, 0), x.twice(look, 1), above, below);
    }

    /** Half seen at each place, he looks at the first alone: each place of the second one halves it. */
    private static void twiceLooks() {
        Due.sentence("who looks at the last so many (1 .. 4; at all of them, if WANT is less) places of WANT");
        for (int want = 1; want <= 40; want++) {
            String text = new StringBuilder("look 1;sees 50 w=0;want ").append(want).toString();
            TwoPens x = forty(text);
            for (int look = 1; look <= 4; look++) {
                twice(x, look, 1, 2L << Math.min(look, want));
            }
        }
        TwoPens y = forty("want 20;look 1;sees 20 l=1&m=9;sees 30 l=1&m=6;sees 40 l=1&m=5;sees 50 l=2");
        twice(y, 1, 4, 5);
        twice(y, 3, 4, 5);
        twice(y, 4, 14, 25);
        TwoPens z = forty("want 4;look 1;sees 50 m=0;sees 9 m=4");
        twice(z, 3, 1, 2);
        twice(z, 4, 1, 4);
        TwoPens beyond = one(0, 0, 1);
        beyond.write(0, 19);
        beyond.looks(0);
        twice(beyond, 1, 0, 1);
        beyond.write(0, 1);
        twice(beyond, 4, 1, 1);
        beyond.write(-1, 1);
        twice(beyond, 4, 1, 1);
        TwoPens most = forty("want 40;sees 1 w=0");
        for (int i = 0; i < 5; i++) most.looks(i);
        twice(most, 4, 913517247483640899L, 1000000000000000000L);
        TwoPens least = forty("want 40;sees 99 w=0");
        for (int i = 0; i < 5; i++) least.looks(i);
        twice(least, 4, 1, 1000000000000000000L);
    }

    private static void twiceCounts() {
        Due.sentence("how likely neither SEES anything (each by itself at each place; both count, if he does)");
        TwoPens x = one(0, 0, 1);
        x.write(-1, 1);
        x.write(0, 39);
        Due.school(x, "want 40;count 1");
        x.looks(39);
        twice(x, 1, 0, 1);
        Due.school(x, "want 39;count 1");
        twice(x, 1, 1, 1);
        Due.school(x, "want 40;count 0");
        twice(x, 4, 1, 1);
        twice(forty("want 1;look 1;count 1;sees 10 w=0"), 1, 81, 100);
        twice(forty("want 1;look 1;sees 99 w=0;sees 1 w=0"), 4, 0, 1);
        twice(new TwoPens(), 1, 0, 1);
    }

    private static void twiceRefused() {
        Due.sentence("`long twice(int look, int part)`: TWICE. NO: look, part.");
        for (int look : new int[] {0, -1, 5, FAR[0], FAR[1]}) {
            Watch.refused("twice(" + look + ", 0)", y -> y.twice(look, 0), NO);
            Watch.refused("twice(" + look + ", 1)", y -> y.twice(look, 1), NO);
        }
        for (int part : new int[] {-1, 2, FAR[0], FAR[1]}) {
            Watch.refused("twice(1, " + part + ")", y -> y.twice(1, part), NO);
            Watch.refused("twice(4, " + part + ")", y -> y.twice(4, part), NO);
        }
    }

    private static void quick(TwoPens x, int n, int pence, int way, int seconds) {
        Due.is("quick(" + n + ", " + pence + ", 0)", x.quick(n, pence, 0), way);
        Due.is("quick(" + n + ", " + pence + ", 1)", x.quick(n, pence, 1), seconds);
    }

    private static void quickPence() {
        Due.sentence("PENCE being no more than told (of several the first; -5: none); how many.");
        TwoPens x = one(3, 9, 1);
        quick(x, 1, 8, NOTHING, NOTHING);
        quick(x, 1, 9, 0, 0);
        quick(x, 40, 359, NOTHING, NOTHING);
        quick(x, 40, 360, 0, 0);
        quick(x, 40, 999, 0, 0);
        x.way(3, 0, 1);
        quick(x, 40, 0, 1, 0);
        quick(x, 40, 359, 1, 0);
        quick(x, 40, 360, 0, 0);
        quick(new TwoPens(), 1, 999, NOTHING, NOTHING);
        TwoPens y = one(0, 0, 8);
        y.way(0, 0, 7);
        y.way(0, 9, 7);
        y.way(0, 0, 7);
        quick(y, 10, 0, 1, 70);
        quick(y, 11, 0, 1, 77);
        y.way(0, 0, 6);
        y.way(0, 0, 6);
        quick(y, 1, 0, 4, 6);
        TwoPens told = one(6, 1, 1);
        told.row(0, 1, 9);
        told.way(0, 0, 9);
        quick(told, 1, 1, 0, 9);
        quick(told, 1, 0, 1, 9);
    }

    private static void quickLines() {
        Due.sentence("QUICK of n lines (1 .. 40): the WAY by which a RUN of these takes the fewest SECONDS");
        TwoPens x = one(0, 9, 10);
        x.way(0, 0, 11);
        quick(x, 1, 0, 0, 10);
        quick(x, 11, 0, 0, 119);
        quick(x, 12, 0, 1, 132);
        quick(x, 40, 0, 1, 440);
    }

    private static void quickRefused() {
        Due.sentence("`int quick(int n, int pence, int what)`: QUICK: what 0 the WAY, 1 SECONDS; -5. NONE: what; BAD: n, pence (0 .. 999).");
        for (int n : new int[] {0, -1, 41, FAR[0], FAR[1]}) {
            Watch.refused("quick(" + n + ", 0, 0)", y -> y.quick(n, 0, 0), BAD);
            Watch.refused("quick(" + n + ", 999, 1)", y -> y.quick(n, 999, 1), BAD);
            Watch.unchanged("quick without ways", Watch::fresh, y -> y.quick(n, 0, 0), BAD);
            Watch.refused("quick(" + n + ", 0, 2)", y -> y.quick(n, 0, 2), NONE);
        }
        for (int pence : new int[] {-1, 1000, FAR[0], FAR[1]}) {
            Watch.refused("quick(1, " + pence + ", 0)", y -> y.quick(1, pence, 0), BAD);
            Watch.refused("quick(40, " + pence + ", 1)", y -> y.quick(40, pence, 1), BAD);
            Watch.refused("quick(1, " + pence + ", 2)", y -> y.quick(1, pence, 2), NONE);
        }
        for (int what : new int[] {-1, 2, FAR[0], FAR[1]}) {
            Watch.refused("quick(1, 0, " + what + ")", y -> y.quick(1, 0, what), NONE);
        }
        Watch.unchanged("quick(1, 0, 2) without ways", Watch::fresh, y -> y.quick(1, 0, 2), NONE);
    }

    private static void change(TwoPens x, int n, int pence, int... due) {
        for (int what = 0; what < 4; what++) {
            int answer = due.length == 1 ? NOTHING : due[what];
            Due.is("change(" + n + ", " + pence + ", " + what + ")", x.change(n, pence, what), answer);
        }
    }

    private static void changeLines() {
        Due.sentence("CHANGE of n lines and PENCE told: of all ways to write the first k (0 .. n) by one RUN of a WAY, the others by one RUN of a WAY");
        change(one(0, 9, 10), 1, 0, 10, 0, 0, 0);
        change(one(0, 9, 10), 2, 0, 20, 0, 0, 0);
        change(one(0, 9, 10), 10, 0, 100, 0, 0, 0);
        change(one(0, 9, 10), 11, 0, 110, 0, 1, 0);
        change(one(0, 9, 10), 19, 0, 190, 0, 9, 0);
        change(one(0, 9, 10), 20, 0, 200, 0, 10, 0);
        change(one(0, 9, 10), 21, 0, 219, 0, 10, 0);
        change(one(0, 9, 60), 40, 0, 2400 + 180, 0, 20, 0);
        change(one(0, 0, 60), 40, 0, 2400, 0, 0, 0);
        TwoPens x = one(6, 0, 1);
        x.row(0, 0, 9);
        x.row(0, 1, 9);
        x.row(0, 2, 9);
        change(x, 3, 0, 0, 0, 0, 0);
        change(x, 6, 0, 0, 0, 3, 0);
        change(x, 39, 0, 0, 0, 0, 0);
        TwoPens y = one(0, 0, 2);
        y.way(6, 0, 1);
        y.row(1, 0, 9);
        y.row(1, 1, 9);
        y.row(1, 2, 9);
        change(y, 4, 0, 2, 0, 1, 1);
        change(y, 40, 0, 2, 0, 1, 1);
        y.row(1, 3, 9);
        change(y, 40, 0, 9, 0, 0, 1);
        y.row(1, 0, 0);
        change(y, 40, 0, 0, 0, 0, 1);
    }

    private static void changePence() {
        Due.sentence("(the same or another; none, if there are none), within PENCE together, that with the fewest SECONDS");
        TwoPens x = one(3, 9, 1);
        change(x, 1, 8, NOTHING);
        change(x, 1, 9, 0, 0, 0, 0);
        change(x, 40, 359, NOTHING);
        change(x, 40, 360, 0, 0, 0, 0);
        change(new TwoPens(), 1, 999, NOTHING);
        TwoPens y = one(3, 9, 1);
        y.way(0, 0, 5);
        change(y, 2, 8, 10, 0, 0, 1);
        change(y, 2, 9, 5, 0, 1, 1);
        change(y, 2, 17, 5, 0, 1, 1);
        change(y, 2, 18, 0, 0, 0, 0);
        change(y, 40, 359, 5, 1, 1, 0);
        TwoPens both = one(3, 2, 1);
        both.way(6, 3, 1);
        both.row(1, 1, 9);
        both.row(1, 2, 9);
        both.row(1, 3, 9);
        both.way(0, 0, 60);
        change(both, 5, 13, 0, 0, 0, 0);
        change(both, 5, 10, 0, 0, 0, 0);
        change(both, 5, 9, 60, 2, 1, 0);
    }

    private static void changeTies() {
        Due.sentence("(of several the least k, then first, then second; a WAY is 0 where there are no lines)");
        TwoPens x = one(0, 0, 5);
        x.way(0, 0, 5);
        x.way(0, 9, 5);
        change(x, 10, 0, 50, 0, 0, 0);
        change(x, 20, 0, 100, 0, 0, 0);
        TwoPens y = one(0, 9, 6);
        y.way(0, 9, 5);
        y.way(0, 9, 5);
        change(y, 11, 0, 55, 1, 1, 1);
        change(y, 10, 0, 50, 0, 0, 1);
        TwoPens z = one(0, 0, 60);
        z.way(6, 0, 1);
        z.way(6, 0, 1);
        z.row(1, 1, 9);
        z.row(2, 1, 9);
        z.row(2, 2, 9);
        z.row(1, 3, 9);
        change(z, 5, 0, 0, 1, 2, 2);
        z.row(2, 3, 9);
        change(z, 5, 0, 9, 0, 0, 1);
        TwoPens six = one(0, 9, 60);
        for (int i = 0; i < 4; i++) six.way(0, 9, 60);
        six.way(0, 9, 59);
        change(six, 11, 0, 11 * 59, 5, 1, 5);
        change(six, 40, 0, 40 * 59 + 180, 5, 20, 5);
    }

    private static void changeWithoutLines() {
        Due.sentence("a WAY is 0 where there are no lines");
        TwoPens x = one(0, 9, 60);
        x.way(0, 9, 60);
        x.way(0, 0, 1);
        change(x, 1, 0, 1, 0, 0, 2);
        change(x, 40, 0, 40, 0, 0, 2);
        TwoPens told = one(6, 0, 1);
        told.row(0, 0, 9);
        told.way(0, 0, 5);
        change(told, 1, 0, 0, 0, 0, 0);
        change(told, 4, 0, 0, 0, 1, 0);
    }

    private static void changeRefused() {
        Due.sentence("`int change(int n, int pence, int what)`: CHANGE: what 0 SECONDS, 1 the first WAY, 2 k, 3 the second; -5: none. NONE: what; BAD.");
        for (int n : new int[] {0, -1, 41, FAR[0], FAR[1]}) {
            Watch.refused("change(" + n + ", 0, 0)", y -> y.change(n, 0, 0), BAD);
            Watch.refused("change(" + n + ", 999, 3)", y -> y.change(n, 999, 3), BAD);
            Watch.unchanged("change without ways", Watch::fresh, y -> y.change(n, 0, 0), BAD);
            Watch.refused("change(" + n + ", 0, 4)", y -> y.change(n, 0, 4), NONE);
        }
        for (int pence : new int[] {-1, 1000, FAR[0], FAR[1]}) {
            Watch.refused("change(1, " + pence + ", 0)", y -> y.change(1, pence, 0), BAD);
            Watch.refused("change(40, " + pence + ", 3)", y -> y.change(40, pence, 3), BAD);
            Watch.refused("change(1, " + pence + ", -1)", y -> y.change(1, pence, -1), NONE);
        }
        for (int what : new int[] {-1, 4, FAR[0], FAR[1]}) {
            Watch.refused("change(1, 0, " + what + ")", y -> y.change(1, 0, what), NONE);
        }
        Watch.unchanged("change(1, 0, 4) without ways", Watch::fresh, y -> y.change(1, 0, 4), NONE);
        change(one(0, 0, 1), 1, 999, 1, 0, 0, 0);
        change(one(0, 0, 1), 40, 999, 40, 0, 0, 0);
    }

    private static void rests(TwoPens x, int n, int r, int runs, int seconds) {
        Due.is("rests(0, " + n + ", " + r + ", 0)", x.rests(0, n, r, 0), runs);
        Due.is("rests(0, " + n + ", " + r + ", 1)", x.rests(0, n, r, 1), seconds);
    }

    private static void restsRuns() {
        Due.sentence("RESTS of a WAY, n lines (1 .. 40) and a rest of r seconds (0 .. 99): in how many RUNS (1 .. n)");
        TwoPens x = one(0, 9, 1);
        rests(x, 1, 0, 1, 1);
        rests(x, 1, 99, 1, 1);
        rests(x, 10, 0, 1, 10);
        rests(x, 11, 0, 2, 11);
        rests(x, 20, 0, 2, 20);
        rests(x, 21, 0, 3, 21);
        rests(x, 40, 0, 4, 40);
        rests(x, 40, 89, 4, 40 + 267);
        rests(x, 40, 90, 2, 40 + 180 + 90);
        rests(x, 40, 99, 2, 40 + 180 + 99);
        rests(x, 11, 8, 2, 19);
        rests(x, 11, 9, 1, 20);
        TwoPens told = one(6, 0, 1);
        told.row(0, 0, 9);
        told.row(0, 2, 9);
        told.row(0, 3, 9);
        rests(told, 4, 0, 4, 0);
        rests(told, 4, 2, 4, 6);
        rests(told, 4, 3, 1, 9);
        rests(told, 2, 0, 2, 0);
        rests(told, 3, 0, 3, 0);
        rests(told, 3, 4, 3, 8);
        rests(told, 3, 5, 1, 9);
        rests(told, 40, 0, 8, 0);
    }

    private static void restsEven() {
        Due.sentence("as even as may be (greater ones first), with a rest between each two, they should be written so that SECONDS and rests, together, are fewest (of several the least); how many seconds.");
        TwoPens told = one(6, 0, 1);
        told.row(0, 1, 5);
        told.row(0, 2, 1);
        told.row(0, 3, 1);
        told.row(0, 0, 9);
        rests(told, 5, 0, 2, 2);
        rests(told, 5, 2, 2, 4);
        rests(told, 5, 3, 1, 5);
        rests(told, 4, 0, 2, 2);
        rests(told, 4, 7, 1, 9);
        rests(told, 4, 6, 2, 8);
        rests(told, 8, 0, 3, 3);
        rests(told, 8, 3, 1, 9);
        rests(told, 8, 2, 3, 7);
        TwoPens lent = one(3, 9, 60);
        rests(lent, 40, 0, 1, 0);
        rests(lent, 40, 1, 1, 0);
        TwoPens even = one(0, 0, 1);
        rests(even, 40, 0, 1, 40);
        rests(one(1, 0, 4), 40, 0, 1, 80);
    }

    private static void restsRefused() {
        Due.sentence("`int rests(int way, int n, int r, int what)`: RESTS: what 0 RUNS, 1 seconds. NONE; BAD: n, r.");
        for (int n : new int[] {0, -1, 41, FAR[0], FAR[1]}) {
            Watch.refused("rests(0, " + n + ", 0, 0)", y -> y.rests(0, n, 0, 0), BAD);
            Watch.refused("rests(0, " + n + ", 0, 2)", y -> y.rests(0, n, 0, 2), NONE);
            Watch.refused("rests(6, " + n + ", 0, 0)", y -> y.rests(6, n, 0, 0), NONE);
        }
        for (int r : new int[] {-1, 100, FAR[0], FAR[1]}) {
            Watch.refused("rests(0, 1, " + r + ", 1)", y -> y.rests(0, 1, r, 1), BAD);
            Watch.refused("rests(0, 1, " + r + ", -1)", y -> y.rests(0, 1, r, -1), NONE);
            Watch.refused("rests(-1, 1, " + r + ", 0)", y -> y.rests(-1, 1, r, 0), NONE);
        }
        for (int far : new int[] {-1, 2, FAR[0], FAR[1]}) {
            Watch.refused("rests(0, 1, 0, " + far + ")", y -> y.rests(0, 1, 0, far), NONE);
        }
        for (int far : new int[] {-1, 6, FAR[0], FAR[1]}) {
            Watch.refused("rests(" + far + ", 1, 0, 0)", y -> y.rests(far, 1, 0, 0), NONE);
        }
        Watch.unchanged("rests(4, 1, 0, 0)", Watch::some, y -> y.rests(4, 1, 0, 0), NONE);
    }

    private static void mendOnTheSheet() {
        Due.sentence("MEND of a WAY: the PLACE where he looks, being one of THE SHEET, by which, were that line (also a MISSING one) by this WAY, SAFE would be greatest");
        TwoPens x = one(0, 0, 1);
        x.way(0, 1, 1);
        Due.school(x, "want 10;look 1;sees 50 w=0");
        Due.is("no lines", x.mend(1), NOTHING);
        x.write(0, 5);
        Due.is("place 0", x.mend(1), 0);
        x.looks(5);
        Due.is("one beyond", x.mend(1), NOTHING);
        x.looks(-1);
        x.looks(4);
        Due.is("the last line", x.mend(1), 4);
        x.write(-1, 1);
        x.looks(-1);
        x.looks(5);
        Due.is("a missing one", x.mend(1), 5);
        Due.is("a missing one by half", x.mend(0), 5);
        x.write(-1, 33);
        x.write(0, 1);
        x.looks(-1);
        x.looks(39);
        Due.is("the 40th", x.mend(1), 39);
        x.looks(4);
        Due.is("of several the first", x.mend(1), 39);
        x.looks(-1);
        x.looks(4);
        x.looks(39);
        Due.is("as places are told", x.mend(1), 4);
        x.looks(1);
        x.looks(2);
        x.looks(3);
        Due.is("of five", x.mend(1), 4);
        Due.is("the line stays", x.line(4, 0), 0);
        TwoPens five = one(0, 0, 1);
        five.way(0, 1, 1);
        five.write(1, 4);
        five.write(0, 1);
        Due.school(five, "sees 50 w=0");
        for (int i = 0; i < 5; i++) five.looks(i);
        Due.is("the fifth place", five.mend(1), 4);
    }

    private static void mendGreater() {
        Due.sentence("if greater than now (of several the first as PLACES are told; -5: none)");
        TwoPens x = one(0, 0, 1);
        x.way(0, 1, 1);
        x.way(0, 2, 1);
        x.way(0, 3, 1);
        x.write(0, 20);
        Due.school(x, "look 1;sees 50 w=0;sees 50 w=1;sees 49 w=2;sees 51 w=3");
        Due.is("by itself", x.mend(0), NOTHING);
        Due.is("alike", x.mend(1), NOTHING);
        Due.is("a hundredth better", x.mend(2), 0);
        Due.is("a hundredth worse", x.mend(3), NOTHING);
        Due.school(x, "want 20;sees 99 w=0;sees 1 w=0");
        Due.is("seen surely elsewhere", x.mend(1), NOTHING);
        TwoPens y = one(0, 0, 1);
        Due.school(y, "want 2;look 1;count 1");
        y.write(-1, 2);
        y.write(0, 1);
        Due.is("enough by it", y.mend(0), 0);
        Due.school(y, "want 3;look 1;count 1");
        Due.is("one too few with it", y.mend(0), NOTHING);
        y.write(0, 1);
        Due.is("just enough with it", y.mend(0), 0);
        TwoPens none = one(0, 0, 1);
        none.write(0, 20);
        Due.is("sure already", none.mend(0), NOTHING);
    }

    private static void mendRefused() {
        Due.sentence("`int mend(int way)`: MEND; -5. NONE.");
        for (int way : new int[] {-1, 6, FAR[0], FAR[1]}) {
            Watch.refused("mend(" + way + ")", y -> y.mend(way), NONE);
        }
        Watch.unchanged("mend(4)", Watch::some, y -> y.mend(4), NONE);
        Watch.unchanged("mend(0) without ways", Watch::fresh, y -> y.mend(0), NONE);
        Due.is("the last way", one(0, 0, 1).mend(0), NOTHING);
    }

    private static void where(TwoPens x, int... due) {
        for (int k = 0; k < 7; k++) {
            Due.is("where(" + k + ")", x.where(k), k < due.length ? due[k] : NONE);
        }
    }

    private static void where() {
        Due.sentence("those of WANT with the greatest SIGN (of several the first; places beyond THE SHEET as MISSING)");
        where(new TwoPens(), 0, 1, 2);
        TwoPens x = one(0, 0, 1);
        Due.school(x, "look 5;want 40;sees 99 w=0;sees 1 m=9");
        x.write(0, 39);
        where(x, 9, 19, 29, 39, 0);
        x.write(0, 1);
        where(x, 9, 19, 29, 39, 0);
        TwoPens y = one(0, 0, 1);
        Due.school(y, "look 5;want 6;sees 99 w=0");
        y.write(0, 5);
        where(y, 5, 0, 1, 2, 3);
        y.write(0, 1);
        where(y, 0, 1, 2, 3, 4);
        y.write(-1, 34);
        where(y, 0, 1, 2, 3, 4);
        TwoPens z = one(0, 0, 1);
        Due.school(z, "look 5;want 40;sees 1 l=3&m=9;sees 2 l=3&m=8");
        z.write(0, 40);
        where(z, 38, 39, 0, 1, 2);
        z.image();
        Due.school(z, "look 2;want 39;sees 1 l=3&m=9;sees 2 l=3&m=8");
        where(z, 38, 0);
        z.undo();
        z.looks(7);
        where(z, 38, 39, 0, 1, 2);
        z.tear();
        where(z, 0, 1, 2, 3, 4);
    }

    private static void whereRefused() {
        Due.sentence("`int where(int k)`: WHERE. NONE: k (0 .. LOOK less 1; WANT less 1).");
        for (int k : new int[] {-1, 5, 40, FAR[0], FAR[1]}) {
            Watch.refused("where(" + k + ")", y -> y.where(k), NONE);
        }
        Watch.unchanged("where(2) of look 2", Watch::some, y -> y.where(2), NONE);
        Due.is("where(1) of look 2", Watch.some().where(1), 10);
        for (int look = 1; look <= 5; look++) {
            for (int want = 1; want <= 6; want++) {
                TwoPens x = new TwoPens();
                Due.school(x, new StringBuilder("look ").append(look).append(";want ").append(want).toString());
                for (int k = 0; k < 7; k++) {
                    Due.is("where(" + k + ") of look " + look + ", want " + want,
                        x.where(k), k < look && k < want ? k : NONE);
                }
            }
        }
    }

    private static void left() {
        Due.sentence("LEFT: how many lines of THE SHEET that are not MISSING are at none of his PLACES (0, if he counts).");
        TwoPens x = one(0, 0, 1);
        Due.is("no lines", x.left(), 0);
        x.write(0, 1);
        Due.is("a line at a place", x.left(), 0);
        x.write(0, 9);
        Due.is("one of his places", x.left(), 9);
        x.write(0, 1);
        Due.is("two of them", x.left(), 9);
        x.write(0, 8);
        Due.is("the last is beyond", x.left(), 17);
        x.write(0, 1);
        Due.is("all three", x.left(), 17);
        x.write(0, 20);
        Due.is("forty", x.left(), 37);
        x.tear();
        x.write(-1, 40);
        Due.is("all missing", x.left(), 0);
        x.tear();
        x.write(-1, 1);
        x.write(0, 39);
        Due.is("a missing one at a place", x.left(), 37);
        for (int i = 35; i < 40; i++) x.looks(i);
        Due.is("five told", x.left(), 34);
        x.image();
        Due.school(x, "count 1");
        Due.is("he counts", x.left(), 0);
        x.undo();
        Due.school(x, "count 0");
        Due.is("he does not count", x.left(), 34);
    }

    private static void leftAtPlaces() {
        Due.sentence("`int left()`: LEFT.");
        Due.is("a new object", new TwoPens().left(), 0);
        for (int want = 1; want <= 40; want++) {
            TwoPens x = one(0, 0, 1);
            x.write(0, 40);
            Due.school(x, new StringBuilder("look 5;want ").append(want).toString());
            Due.is("each place once, want " + want, x.left(), 40 - Math.min(want, 3));
        }
        TwoPens y = one(0, 0, 1);
        y.write(0, 10);
        y.looks(10);
        Due.is("one beyond", y.left(), 10);
        y.looks(9);
        Due.is("the last line", y.left(), 9);
        Due.school(y, "count 1;want 1");
        Due.is("he counts, enough or not", y.left(), 0);
    }

    private static void longest(TwoPens x, int how, int where) {
        Due.is("longest(0)", x.longest(0), how);
        Due.is("longest(1)", x.longest(1), where);
    }

    private static void longest() {
        Due.sentence("LONGEST: the longest row of lines by one WAY, one behind the other (MISSING ones are no row): how long; where it begins (of several the first; -5: no lines).");
        TwoPens x = one(0, 0, 1);
        x.way(0, 0, 1);
        longest(x, NOTHING, NOTHING);
        x.write(-1, 39);
        longest(x, NOTHING, NOTHING);
        x.write(1, 1);
        longest(x, 1, 39);
        x.tear();
        x.write(0, 1);
        longest(x, 1, 0);
        x.write(0, 1);
        longest(x, 2, 0);
        x.write(1, 2);
        longest(x, 2, 0);
        x.write(-1, 1);
        x.write(1, 2);
        longest(x, 2, 0);
        x.write(1, 1);
        longest(x, 3, 5);
        x.tear();
        x.write(0, 40);
        longest(x, 40, 0);
        x.tear();
        x.write(0, 19);
        x.write(1, 20);
        longest(x, 20, 19);
        x.write(1, 1);
        longest(x, 21, 19);
        x.tear();
        x.write(0, 2);
        x.write(-1, 3);
        x.write(0, 1);
        longest(x, 2, 0);
        x.tear();
        x.write(-1, 3);
        x.write(0, 2);
        longest(x, 2, 3);
    }

    private static void longestRefused() {
        Due.sentence("LONGEST: what 0 how long, 1 where; -5 both (no lines, or MISSING ones alone). NONE.");
        TwoPens x = new TwoPens();
        longest(x, NOTHING, NOTHING);
        x.write(-1, 1);
        longest(x, NOTHING, NOTHING);
        for (int what : new int[] {-1, 2, FAR[0], FAR[1]}) {
            Watch.refused("longest(" + what + ")", y -> y.longest(what), NONE);
            Watch.unchanged("longest without lines", Watch::fresh, y -> y.longest(what), NONE);
        }
    }

    /** What is told in the tables' part, the tables' test asks. */
    private static void asksChangeNothing() {
        Due.sentence("All that follows is asked, as things are now, and changes nothing.");
        for (int what = 0; what < 2; what++) {
            int it = what;
            Watch.asked("safe", x -> x.safe(it));
            Watch.asked("again", x -> x.again(it));
            Watch.asked("twice", x -> x.twice(1, it));
            Watch.asked("twice", x -> x.twice(4, it));
            Watch.asked("quick", x -> x.quick(40, 999, it));
            Watch.asked("change", x -> x.change(40, 99, it));
            Watch.asked("change", x -> x.change(1, 0, it + 2));
            Watch.asked("rests", x -> x.rests(0, 40, 0, it));
            Watch.asked("cost", x -> x.cost(0, 40, it));
            Watch.asked("longest", x -> x.longest(it));
            Watch.asked("line", x -> x.line(2, it));
            Watch.asked("mend", x -> x.mend(it));
            Watch.asked("where", x -> x.where(it));
            Watch.asked("told", x -> x.told(11 + it));
            Watch.asked("of", x -> x.of(1, 2 + it));
        }
        Watch.asked("left", TwoPens::left);
    }
}
