/** Promises 31 to 36: acts, the image. */
public final class ActsTest {
    private static final int NONE = -1, STATE = -3, FULL = -4;

    public static void main(String[] args) {
        promises31And32();
        promise31Edges();
        promise33();
        promises34And35();
        promise35Everything();
        promise36();
        Due.end("ActsTest");
    }

    private static void act(TwoPens x, int way, int act, int n, int due, int... trace) {
        String call = "act(" + way + ", " + act + ", " + n + ")";
        Due.is(call, x.act(way, act, n), due);
        Due.is(call + " bodies", x.count(7), trace.length);
        for (int i = 0; i < trace.length; i++) {
            Due.is(call + " trace " + i, x.trace(i), trace[i]);
        }
        Due.is(call + " trace behind", x.trace(trace.length), NONE);
    }

    /** Ways 0 to 5 of the kinds 6 to 1, v is 7 less the number: each kind's number differs from it. */
    private static TwoPens acting() {
        TwoPens x = new TwoPens();
        for (int i = 0; i < 6; i++) {
            x.way(6 - i, 7 - i, 1);
        }
        return x;
    }

    private static void promises31And32() {
        Due.promise("promises 31 and 32");
        TwoPens line = new TwoPens();
        line.way(3, 9, 1);
        line.way(0, 4, 1);
        act(line, 1, 0, 10, 11, 1);
        act(line, 1, 1, 10, 7, 2, 1);
        act(line, 1, 2, 10, 14, 3, 2, 1);
        TwoPens x = acting();
        act(x, 5, 0, 10, 35, 11, 1);
        act(x, 5, 1, 10, 33, 2, 11, 1);
        act(x, 5, 2, 10, 66, 3, 2, 11, 1);
        act(x, 4, 0, 10, 14, 1);
        act(x, 4, 1, 10, -11, 21, 2, 1);
        act(x, 4, 2, 10, -22, 3, 21, 2, 1);
        act(x, 3, 0, 10, 13, 1);
        act(x, 3, 1, 10, 9, 2, 1);
        act(x, 3, 2, 10, 18 ^ 7, 31, 3, 2, 1);
        act(x, 2, 0, 10, 32, 11, 1);
        act(x, 2, 1, 10, 27, 2, 11, 1);
        act(x, 2, 2, 10, 24 * 2 + 8, 41, 3, 2, 11, 1, 11, 1);
        act(x, 1, 0, 10, 11 ^ 1, 51, 1);
        act(x, 1, 1, 10, -4, 21, 2, 51, 1);
        act(x, 1, 2, 10, -8, 3, 21, 2, 51, 1);
        act(x, 0, 0, 10, 10, 1);
        act(x, 0, 1, 10, 10, 61, 2, 1);
        act(x, 0, 2, 10, 20 ^ 7, 31, 3, 61, 2, 1);
    }

    private static void promise31Edges() {
        TwoPens x = acting();
        act(x, 5, 0, Integer.MAX_VALUE, Integer.MAX_VALUE * 3 + 5, 11, 1);
        act(x, 4, 0, Integer.MAX_VALUE, Integer.MIN_VALUE + 3, 1);
        act(x, 2, 2, Integer.MIN_VALUE, (Integer.MAX_VALUE * 3 + 2 - 5) * 2 + 8, 41, 3, 2, 11, 1, 11, 1);
        Due.is("trace(-1)", x.trace(-1), NONE);
        Due.is("trace(20)", x.trace(20), NONE);
        act(x, 6, 0, 1, 0);
        act(x, 0, 0, 1, 1, 1);
        act(x, -1, 0, 1, 0);
        act(x, 0, 0, 1, 1, 1);
        act(x, 0, 3, 1, 0);
        act(x, 0, 0, 1, 1, 1);
        act(x, 0, -1, 1, 0);
        Due.is("acts write no lines", x.told(0), 0);
    }

    private static void promise33() {
        Due.promise("promise 33");
        TwoPens x = acting();
        int[][] above = {{6, 3, 0}, {5, 2, 0}, {4, 1, 0}, {3, 0}, {2, 0}, {1, 0}};
        for (int way = 0; way < 6; way++) {
            for (int k = 0; k < 7; k++) {
                boolean under = false;
                for (int kind : above[way]) {
                    under |= kind == k;
                }
                Due.is("as(" + way + ", " + k + ")", x.as(way, k), under ? 7 - way : -6);
            }
        }
        TwoPens line = new TwoPens();
        line.way(0, 3, 1);
        Due.is("line as line", line.as(0, 0), 3);
        Due.is("line as twin", line.as(0, 1), -6);
        Due.is("no way", x.as(6, 0), NONE);
        Due.is("way -1", x.as(-1, 0), NONE);
        Due.is("k 7", x.as(0, 7), NONE);
        Due.is("k -1", x.as(0, -1), NONE);
    }

    private static void promises34And35() {
        Due.promise("promises 34 and 35");
        TwoPens x = new TwoPens();
        Due.is("none yet", x.undo(), STATE);
        Due.is("image of nothing", x.image(), 0);
        x.way(0, 1, 1);
        x.way(1, 1, 1);
        Due.is("undo", x.undo(), 0);
        Due.is("no ways", x.count(0), 0);
        Due.is("a way anew", x.way(2, 5, 1), 0);
        Due.is("a new image", x.image(), 1);
        x.way(3, 5, 1);
        Due.is("to the newer one", x.undo(), 1);
        Due.is("kind", x.of(0, 0), 2);
        x.act(0, 1, 1);
        x.undo();
        Due.is("the trace is no part", x.count(7), 3);
        Due.is("the trace is no part", x.trace(0), 21);
        x.act(9, 9, 9);
        x.undo();
        Due.is("the trace is no part", x.count(7), 0);
        Due.is("the image stays", x.undo(), 1);
    }

    private static void full(TwoPens x, String when) {
        Due.promise("promises 34 and 35, " + when);
        Due.is("ways", x.count(0), 2);
        Due.is("kind", x.of(0, 0), 6);
        Due.is("kind", x.of(1, 0), 1);
        Due.is("row", x.cost(0, 1, 0), 7);
        Due.is("schools", x.count(1), 1);
        Due.is("WANT", x.told(3), 9);
        Due.is("places", x.count(2), 1);
        Due.is("place", x.told(10), 1);
        Due.is("shown", x.count(3), 1);
        Due.is("whose", x.whose(), 2);
        Due.is("wanted", x.count(4), 1);
        Due.is("stock", x.stock(1, 1), 7);
        Due.is("book", x.count(5), 1);
        Due.is("looked", x.looked(), -5);
        Due.is("tape", x.count(6), 2);
        Due.is("lines", x.told(0), 6);
        Due.is("line", x.line(2, 0), 0);
        Due.is("line", x.line(3, 0), 1);
        Due.is("line", x.line(5, 0), -5);
        Due.is("SPENT", x.told(1), 5);
        Due.is("PAID", x.told(2), 12);
        Due.is("SAFE", x.safe(0), 1);
    }

    private static void promise35Everything() {
        TwoPens x = new TwoPens();
        x.way(6, 4, 5);
        x.way(1, 3, 2);
        x.row(0, 1, 7);
        Due.school(x, "want 9;sees 50 w=1");
        x.write(0, 3);
        x.write(1, 2);
        x.write(-1, 1);
        x.looks(1);
        x.show(4);
        x.wanted(7);
        x.book(2, 0);
        Due.feed(x, "wa");
        full(x, "ahead of the image");
        Due.is("image", x.image(), 2);
        full(x, "the image changes nothing");
        for (int time = 0; time < 2; time++) {
            x.row(0, 1, 1);
            x.way(0, 1, 1);
            x.feed('n');
            Due.is("tape goes on", Due.school(x, "t 30;sees 90 w=0"), 1);
            Due.feed(x, "look 1");
            x.write(2, 4);
            x.tear();
            x.write(2, 1);
            x.looks(-1);
            x.looks(0);
            x.looks(30);
            x.show(0);
            x.show(0);
            x.wanted(-1);
            x.wanted(3);
            x.wanted(3);
            x.book(-1, 0);
            x.book(3, 2);
            x.book(3, 2);
            Due.is("undo", x.undo(), 2);
            full(x, "undone");
        }
    }

    private static void promise36() {
        Due.promise("promise 36");
        TwoPens x = Due.withWays();
        Due.school(x, "want 1");
        Due.school(x, "want 2");
        x.write(0, 5);
        for (int i = 0; i < 3; i++) {
            x.looks(i);
        }
        for (int i = 0; i < 4; i++) {
            x.show(i);
        }
        for (int i = 0; i < 5; i++) {
            x.wanted(i);
        }
        for (int i = 0; i < 7; i++) {
            x.book(i, 0);
        }
        Due.feed(x, "want 1234");
        x.act(4, 1, 0);
        int[] due = {6, 2, 3, 4, 5, 7, 9, 3};
        for (int what = 0; what < 8; what++) {
            Due.is("count(" + what + ")", x.count(what), due[what]);
        }
        Due.is("count(8)", x.count(8), NONE);
        Due.is("count(-1)", x.count(-1), NONE);
        Due.is("full ways", x.way(0, 0, 1), FULL);
        Due.is("none more", x.count(0), 6);
    }
}
