import java.util.List;

/** The bounds of acts and of the image, sentence by sentence: 'Terms' part 2, promises 31 to 36, and the 512 calls. */
public final class ActBoundsTest {
    private static final int NONE = -1, STATE = -3, FULL = -4;
    private static final int LEAST = Integer.MIN_VALUE, MOST = Integer.MAX_VALUE;
    private static final int[] FAR = {LEAST, MOST};
    /** The kind above each one. */
    private static final int[] ABOVE = {-1, 0, 0, 0, 1, 2, 3};

    public static void main(String[] args) {
        wrapping();
        wrappingEachBody();
        bodiesByKind();
        trace();
        noTraceThen();
        traceRefused();
        takenForAKind();
        takenRefused();
        imageOfAll();
        imageOfNothing();
        imageWhenFull();
        imageIsNotOfItself();
        undoWithout();
        counts();
        countRefused();
        lastCalls();
        Due.end("ActBoundsTest");
    }

    private static TwoPens one(int kind, int v) {
        TwoPens x = new TwoPens();
        x.way(kind, v, 1);
        return x;
    }

    /** Five ways of no matter, then one of this kind: its number is 5, its v 9. */
    private static TwoPens fifth(int kind) {
        TwoPens x = new TwoPens();
        for (int i = 0; i < 5; i++) x.way(0, 0, 1);
        x.way(kind, 9, 1);
        return x;
    }

    private static void wrapping() {
        Due.sentence("ACTS of a WAY with x (ints, wrapping): writes, shows, tells; i its number.");
        for (int x : new int[] {LEAST, LEAST + 1, LEAST + 9, -1, 0, 1, MOST - 5, MOST - 4, MOST - 1, MOST,
            MOST / 3, MOST / 3 + 1, LEAST / 3, LEAST / 3 - 1, 1 << 30, -(1 << 30)}) {
            for (int kind = 0; kind < 7; kind++) {
                TwoPens y = fifth(kind);
                for (int act = 0; act < 3; act++) {
                    Due.is("act " + act + " of kind " + kind + " with " + x, y.act(5, act, x), due(kind, act, x));
                }
            }
        }
    }

    /** The same in longs, cut to an int behind each step; number 5, v 9. */
    private static int due(int kind, int act, long x) {
        switch (act) {
            case 0: return writes(kind, x);
            case 1: return shows(kind, x);
            default: return tells(kind, x);
        }
    }

    private static int writes(int kind, long x) {
        boolean thrice = kind == 1 || kind == 4;
        int written = (int) ((thrice ? (int) (x * 3) : x) + 5L);
        return kind == 5 ? written ^ 5 : written;
    }

    private static int shows(int kind, long x) {
        int shown = (int) (writes(kind, x) - 9L);
        if (kind == 2 || kind == 5) return (int) -(long) shown;
        return kind == 6 ? (int) (shown + 9L) : shown;
    }

    private static int tells(int kind, long x) {
        if (kind == 4) return (int) ((int) (shows(4, (int) (x - 1)) * 2L) + (long) writes(4, 2));
        int told = (int) (shows(kind, x) * 2L);
        return kind == 3 || kind == 6 ? told ^ 7 : told;
    }

    private static void wrappingEachBody() {
        Due.sentence("LINE: 1 writes: x + i. 2 shows: writes(x) - v. 3 tells: shows(x) * 2.");
        Due.is("x + i", fifth(0).act(5, 0, MOST), LEAST + 4);
        Due.is("just not", fifth(0).act(5, 0, MOST - 5), MOST);
        Due.is("- v", fifth(0).act(5, 1, LEAST), MOST - 3);
        Due.is("just not", fifth(0).act(5, 1, LEAST + 4), LEAST);
        Due.is("* 2", fifth(0).act(5, 2, (1 << 30) + 4), LEAST);
        Due.is("just not", fifth(0).act(5, 2, (1 << 30) + 3), MOST - 1);
        Due.sentence("TWIN: 11 writes: super.writes(x * 3).");
        Due.is("x * 3", one(1, 0).act(0, 0, MOST / 3 + 1), LEAST + 1);
        Due.is("just not", one(1, 0).act(0, 0, MOST / 3), MOST - 1);
        Due.sentence("COLUMN: 21 shows: -super.shows(x).");
        Due.is("the least stays", one(2, 0).act(0, 1, LEAST), LEAST);
        Due.is("just not", one(2, 0).act(0, 1, LEAST + 1), MOST);
        Due.sentence("LENT: 31 tells: super.tells(x) ^ 7.");
        Due.is("the greatest", one(3, 1).act(0, 2, 0), -2 ^ 7);
        Due.is("the least", one(3, 0).act(0, 2, 1 << 30), LEAST ^ 7);
        Due.sentence("TRIPLE: 41 tells: super.tells(x - 1) + writes(2).");
        Due.is("x - 1", one(4, 0).act(0, 2, LEAST), MOST * 3 * 2 + 6);
        Due.is("+ writes(2)", one(4, 0).act(0, 2, MOST / 6 + 1), LEAST + 4);
        Due.sentence("COPIED: 51 writes: super.writes(x) ^ i.");
        Due.is("with i", fifth(5).act(5, 0, MOST), (LEAST + 4) ^ 5);
        Due.is("with i 0", one(5, 9).act(0, 0, -1), -1);
        Due.sentence("TOLD: 61 shows: super.shows(x) + v.");
        Due.is("+ v", one(6, 9).act(0, 1, LEAST), LEAST);
        Due.is("+ v", one(6, 9).act(0, 1, MOST), MOST);
    }

    private static void ran(int kind, int act, int... bodies) {
        TwoPens x = one(kind, 3);
        x.act(0, act, 4);
        Due.is("kind " + kind + ", act " + act + ", bodies", x.count(7), bodies.length);
        for (int i = 0; i < bodies.length; i++) {
            Due.is("kind " + kind + ", act " + act + ", body " + i, x.trace(i), bodies[i]);
        }
        Due.is("kind " + kind + ", act " + act + ", none behind", x.trace(bodies.length), NONE);
    }

    private static void bodiesByKind() {
        Due.sentence("the body of its KIND, or, if that has none, of the next KIND above that has one");
        int[][] writes = {{1}, {11, 1}, {1}, {1}, {11, 1}, {51, 1}, {1}};
        int[][] shows = {{2, 1}, {2, 11, 1}, {21, 2, 1}, {2, 1}, {2, 11, 1}, {21, 2, 51, 1}, {61, 2, 1}};
        int[][] tells = {{3, 2, 1}, {3, 2, 11, 1}, {3, 21, 2, 1}, {31, 3, 2, 1}, {41, 3, 2, 11, 1, 11, 1},
            {3, 21, 2, 51, 1}, {31, 3, 61, 2, 1}};
        for (int kind = 0; kind < 7; kind++) {
            ran(kind, 0, writes[kind]);
            ran(kind, 1, shows[kind]);
            ran(kind, 2, tells[kind]);
        }
    }

    private static void trace() {
        Due.sentence("THE TRACE: the numbers of the bodies that ran in the latest act(), as they began; the first 20 are kept.");
        TwoPens x = one(4, 1);
        x.way(0, 1, 1);
        Due.is("no act, no body", x.count(7), 0);
        Due.is("no act, no body", x.trace(0), NONE);
        x.act(0, 2, 1);
        Due.is("the most bodies of one act", x.count(7), 7);
        Due.is("the seventh", x.trace(6), 1);
        Due.is("no eighth", x.trace(7), NONE);
        x.act(1, 0, 1);
        Due.is("the latest act's alone", x.count(7), 1);
        Due.is("the latest act's alone", x.trace(0), 1);
        Due.is("none of the act ahead of it", x.trace(1), NONE);
        Due.is("none of the act ahead of it", x.trace(6), NONE);
        for (int i = 0; i < 100; i++) x.act(0, 2, i);
        Due.is("each act anew", x.count(7), 7);
        int[] due = {41, 3, 2, 11, 1, 11, 1};
        for (int i = 0; i < 7; i++) {
            Due.is("as they began", x.trace(i), due[i]);
        }
    }

    private static void noTraceThen() {
        Due.sentence("An ACT (0 writes, 1 shows, 2 tells) of a WAY with x. 0, and no TRACE then: no such WAY, act.");
        for (int way : new int[] {-1, 6, FAR[0], FAR[1]}) {
            noTrace(Watch.some(), way, 0);
            noTrace(Watch.full(), way, 2);
        }
        noTrace(Watch.some(), 4, 0);
        for (int act : new int[] {-1, 3, FAR[0], FAR[1]}) {
            noTrace(Watch.some(), 0, act);
            noTrace(Watch.full(), 5, act);
            noTrace(Watch.some(), -1, act);
        }
        noTrace(new TwoPens(), 0, 0);
        for (int act = 0; act < 3; act++) {
            TwoPens x = Watch.some();
            x.act(3, act, 8);
            Due.is("an act of the last way runs", x.count(7) > 0 ? 1 : 0, 1);
        }
        TwoPens acted = Watch.some();
        acted.act(0, 2, 77);
        acted.act(4, 0, 1);
        acted.act(3, 2, 5);
        Watch.compare("acts but for the trace", acted, Watch.some());
        TwoPens full = Watch.full();
        full.act(2, 1, 77);
        full.act(0, 3, 1);
        full.act(4, 2, 3);
        Watch.compare("acts but for the trace, when full", full, Watch.full());
    }

    private static void noTrace(TwoPens x, int way, int act) {
        Due.is("act(" + way + ", " + act + ", 7)", x.act(way, act, 7), 0);
        Due.is("bodies", x.count(7), 0);
        for (int i = 0; i < 20; i++) {
            Due.is("trace " + i, x.trace(i), NONE);
        }
    }

    private static void traceRefused() {
        Due.sentence("THE TRACE's i-th body. NONE.");
        TwoPens x = Watch.full();
        Due.is("the first", x.trace(0), 41);
        Due.is("the last", x.trace(x.count(7) - 1), 1);
        for (int i : new int[] {-1, 20, 21, FAR[0], FAR[1]}) {
            Watch.refused("trace(" + i + ")", y -> y.trace(i), NONE);
        }
        for (TwoPens y : new TwoPens[] {Watch.some(), Watch.full()}) {
            int bodies = y.count(7);
            Due.is("the last one", y.trace(bodies - 1), 1);
            for (int i = bodies; i < 25; i++) {
                Due.is("behind the last one", y.trace(i), NONE);
            }
        }
        Watch.unchanged("behind the last one", Watch::some, y -> y.trace(5), NONE);
    }

    private static void takenForAKind() {
        Due.sentence("A WAY taken for a KIND k (0 .. 6), or one under that: its v. NONE: way, k; -6: it is of another KIND.");
        for (int kind = 0; kind < 7; kind++) {
            for (int k = 0; k < 7; k++) {
                boolean under = false;
                for (int above = kind; above >= 0; above = ABOVE[above]) {
                    under |= above == k;
                }
                Due.is("kind " + kind + " as " + k, fifth(kind).as(5, k), under ? 9 : -6);
                Due.is("kind " + kind + " as " + k, one(kind, 0).as(0, k), under ? 0 : -6);
            }
        }
    }

    private static void takenRefused() {
        Due.sentence("`int as(int way, int k)`");
        for (int k : new int[] {-1, 7, FAR[0], FAR[1]}) {
            Watch.refused("as(0, " + k + ")", y -> y.as(0, k), NONE);
            Watch.refused("as(6, " + k + ")", y -> y.as(6, k), NONE);
        }
        for (int way : new int[] {-1, 6, FAR[0], FAR[1]}) {
            Watch.refused("as(" + way + ", 0)", y -> y.as(way, 0), NONE);
            Watch.refused("as(" + way + ", 6)", y -> y.as(way, 6), NONE);
        }
        Watch.unchanged("as(4, 0) of four ways", Watch::some, y -> y.as(4, 0), NONE);
        Watch.refused("as(1, 2)", y -> y.as(1, 2), -6);
    }

    private static void imageOfAll() {
        Due.sentence("THE IMAGE: all that there is (but THE IMAGE and THE TRACE).");
        for (Watch.Maker state : List.<Watch.Maker>of(Watch::fresh, Watch::some, Watch::full)) {
            TwoPens x = state.make();
            int ways = x.count(0);
            Due.is("image", x.image(), ways);
            turnOver(x);
            Due.is("undo", x.undo(), ways);
            x.act(3, 2, 5);
            TwoPens other = state.make();
            other.image();
            other.act(3, 2, 5);
            Watch.compare("undone", x, other);
        }
    }

    /** Changes all that there is. */
    private static void turnOver(TwoPens x) {
        x.row(0, 1, 3);
        x.row(0, 2, 4);
        x.way(6, 9, 9);
        x.feed('x');
        x.school();
        Due.school(x, "want 13;look 1;count 2;sees 44 w<9");
        Due.feed(x, "look");
        x.tear();
        x.write(0, 7);
        x.write(-1, 2);
        x.looks(-1);
        x.looks(17);
        x.looks(18);
        x.show(8);
        x.wanted(-1);
        x.wanted(33);
        x.book(-1, 0);
        x.book(3, -1);
        x.act(0, 1, 1);
    }

    private static void imageOfNothing() {
        Due.sentence("THE IMAGE is taken: how many WAYS there are.");
        TwoPens x = new TwoPens();
        Due.is("none", x.image(), 0);
        for (int i = 0; i < 6; i++) {
            x.way(i, i, 1);
            Due.is("ways", x.image(), i + 1);
            Due.is("undo", x.undo(), i + 1);
        }
        x.way(0, 0, 1);
        Due.is("a refused way is none", x.image(), 6);
        TwoPens y = new TwoPens();
        y.image();
        turnOver(y);
        Due.is("nothing again", y.undo(), 0);
        Due.is("a way has the first number", y.way(3, 3, 3), 0);
        Due.is("a school has the first number", Due.school(y, "want 1"), 0);
        Due.is("the newer image is taken", y.image(), 1);
        y.tear();
        y.way(1, 1, 1);
        Due.is("undo to it", y.undo(), 1);
    }

    private static void imageWhenFull() {
        Due.sentence("All is as THE IMAGE: how many WAYS. STATE: there is none.");
        TwoPens x = Watch.full();
        Due.is("image", x.image(), 6);
        x.tear();
        x.looks(-1);
        x.wanted(-1);
        x.book(-1, 0);
        Due.is("undo", x.undo(), 6);
        Due.is("ways full", x.way(0, 0, 1), FULL);
        Due.is("sheet full", x.write(0, 1), FULL);
        Due.is("places full", x.looks(39), FULL);
        Due.is("shown full", x.show(39), FULL);
        Due.is("wanted full", x.wanted(0), FULL);
        Due.is("book full", x.book(0, 0), FULL);
        Due.is("tape full", x.feed('w'), FULL);
        Due.is("schools full", x.school(), FULL);
        TwoPens y = Watch.full();
        Due.is("undo to two ways", y.undo(), 2);
        Due.is("room", y.way(0, 0, 1), 2);
        Due.is("room", y.write(0, 40), 40);
        Due.is("room", y.looks(39), 1);
        Due.is("room", y.show(39), 1);
        Due.is("room", y.wanted(0), 1);
        Due.is("room", y.book(0, 0), 1);
        Due.is("room", y.feed('w'), 1);
        Due.is("room", y.school(), -11);
    }

    private static void imageIsNotOfItself() {
        Due.sentence("All is as THE IMAGE: how many WAYS.");
        TwoPens x = one(0, 1);
        x.image();
        for (int i = 0; i < 10; i++) {
            Due.is("a way", x.way(0, 0, 1), 1);
            Due.is("undo once more", x.undo(), 1);
            Due.is("undo of nothing", x.undo(), 1);
        }
        x.act(0, 1, 1);
        x.undo();
        Due.is("the trace stays", x.count(7), 2);
        Due.is("the trace stays", x.trace(0), 2);
        x.image();
        x.act(9, 0, 0);
        x.undo();
        Due.is("no trace stays", x.count(7), 0);
    }

    private static void undoWithout() {
        Due.sentence("STATE: there is none.");
        Watch.unchanged("undo of a new object", Watch::fresh, TwoPens::undo, STATE);
        TwoPens x = one(0, 1);
        x.write(0, 3);
        x.wanted(4);
        Due.is("undo", x.undo(), STATE);
        Due.is("undo once more", x.undo(), STATE);
        Due.is("ways", x.count(0), 1);
        Due.is("lines", x.told(0), 3);
        Due.is("wanted", x.count(4), 1);
        Due.is("image", x.image(), 1);
        Due.is("undo", x.undo(), 1);
    }

    private static void counts() {
        Due.sentence("0 WAYS, 1 SCHOOLS, 2 told PLACES, 3 of SHOWN, 4 of WANTED, 5 rows of BOOK, 6 signs of THE TAPE, 7 bodies that ran in the latest act() (all, kept or not). NONE.");
        int[] most = {6, 5, 5, 6, 8, 8, 100, 7};
        int[] some = {4, 1, 2, 3, 3, 3, 2, 5};
        for (int what = 0; what < 8; what++) {
            Due.is("count(" + what + ") of a new object", new TwoPens().count(what), 0);
            Due.is("count(" + what + ") of some", Watch.some().count(what), some[what]);
            Due.is("count(" + what + ") when full", Watch.full().count(what), most[what]);
        }
        TwoPens x = new TwoPens();
        Due.is("places by the school are not told", x.count(2), 0);
        x.feed('w');
        Due.is("a sign", x.count(6), 1);
        x.school();
        Due.is("none by a fault", x.count(6), 0);
        Due.is("a fault is no school", x.count(1), 0);
    }

    private static void countRefused() {
        Due.sentence("`int count(int what)`");
        for (int what : new int[] {-1, 8, FAR[0], FAR[1]}) {
            Watch.refused("count(" + what + ")", y -> y.count(what), NONE);
            Watch.unchanged("count(" + what + ")", Watch::fresh, y -> y.count(what), NONE);
        }
        for (int what = 0; what < 8; what++) {
            int it = what;
            Watch.asked("count", y -> y.count(it));
        }
    }

    private static void lastCalls() {
        Due.sentence("An object is used for at most 512 calls after it has been made; what later calls answer is free.");
        TwoPens x = new TwoPens();
        for (int call = 1; call <= 511; call++) {
            int answer = call % 2 == 1 ? x.feed('w') : x.school();
            Due.is("call " + call, answer, call % 2 == 1 ? 1 : -11);
        }
        Due.is("the 512th call", x.school(), -11);
        TwoPens y = one(6, 1);
        y.image();
        for (int call = 3; call <= 511; call++) {
            int answer = call % 2 == 1 ? y.row(0, 0, 9) : y.undo();
            Due.is("call " + call, answer, call % 2 == 1 ? 0 : 1);
        }
        Due.is("the 512th call", y.row(0, 0, 9), 9);
        TwoPens z = one(4, 1);
        for (int call = 2; call <= 512; call++) {
            Due.is("call " + call, z.act(0, 2, 1), 4);
        }
        TwoPens change = new TwoPens();
        for (int i = 0; i < 6; i++) change.way(i, 9, 60);
        for (int call = 7; call <= 512; call++) {
            Due.is("call " + call, change.change(40, 999, 0), 0);
        }
        TwoPens written = one(0, 0);
        for (int call = 2; call <= 511; call++) {
            Due.is("call " + call, call % 2 == 0 ? written.write(0, 40) : written.tear(), 40);
        }
        Due.is("the 512th call", written.write(0, 40), 40);
    }
}
