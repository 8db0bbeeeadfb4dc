import java.util.ArrayList;
import java.util.List;

/**
 * Tells whether a call changes anything: of two objects made alike one gets the call, and then both
 * are asked all that can be asked. No object gets more than 512 calls.
 */
final class Watch {
    interface Call {
        long on(TwoPens x);
    }

    interface Maker {
        TwoPens make();
    }

    private Watch() {
    }

    /** Some of everything, full of nothing; the image is of fewer things. 10 lines, 4 ways. */
    static TwoPens some() {
        return some(true, 6, 1, 3, 5);
    }

    /** As some(), but that no image was taken. */
    static TwoPens withoutImage() {
        return some(false, 6, 1, 3, 5);
    }

    /** As some(), but that every way costs pence. */
    static TwoPens dear() {
        return some(true, 6, 3, 3, 6);
    }

    private static TwoPens some(boolean image, int... kinds) {
        TwoPens x = new TwoPens();
        x.way(kinds[0], 4, 5);
        x.way(kinds[1], 3, 12);
        x.way(kinds[2], 2, 7);
        x.row(0, 1, 7);
        x.row(0, 3, 2);
        x.write(0, 3);
        x.book(2, 0);
        x.wanted(7);
        x.looks(4);
        x.show(2);
        Due.feed(x, "count 9");
        if (image) x.image();
        Due.school(x, ";look 2;count 0;sees 30 w=1;sees 9 p=1");
        x.row(0, 0, 1);
        x.way(kinds[3], 1, 21);
        x.write(1, 2);
        x.write(-1, 1);
        x.write(2, 4);
        x.looks(9);
        x.show(4);
        x.show(3);
        x.wanted(2);
        x.wanted(2);
        x.book(5, -1);
        x.book(1, 3);
        x.act(3, 2, 5);
        Due.feed(x, "wa");
        return x;
    }

    /** As some(), but that this call was made then, so many times. */
    static Maker someBut(int times, Call call) {
        return () -> {
            TwoPens x = some();
            for (int i = 0; i < times; i++) call.on(x);
            return x;
        };
    }

    /** As much of everything as there may be: 40 lines, 6 ways, 5 schools, 100 signs. */
    static TwoPens full() {
        TwoPens x = new TwoPens();
        x.way(6, 4, 5);
        x.way(1, 3, 12);
        x.image();
        for (int kind = 2; kind < 6; kind++) {
            x.way(kind, kind, 10 + kind);
        }
        for (int i = 0; i < 4; i++) {
            Due.school(x, "look 4");
        }
        Due.school(x, "want 40;sees 9 m<5");
        x.row(0, 2, 8);
        for (int way = 0; way < 6; way++) {
            x.write(way, 6);
        }
        x.write(-1, 4);
        for (int i = 0; i < 8; i++) {
            x.looks(i * 9);
            x.show(i * 5);
            x.wanted(i * 5);
            x.book(i * 5, i < 6 ? i : -1);
        }
        x.act(4, 2, 3);
        Due.feed(x, "want 9;".repeat(15));
        return x;
    }

    static TwoPens fresh() {
        return new TwoPens();
    }

    /** The call is refused with this answer where there is some of everything, and where all is full. */
    static void refused(String name, Call call, long due) {
        unchanged(name + " with some", Watch::some, call, due);
        unchanged(name + " when full", Watch::full, call, due);
    }

    /** The call answers this and changes nothing. */
    static void unchanged(String name, Maker state, Call call, long due) {
        TwoPens x = state.make();
        Due.is(name, call.on(x), due);
        compare(name, x, state.make());
    }

    /** Whatever it answers, it changes nothing. */
    static void asked(String name, Call call) {
        for (Maker state : List.<Maker>of(Watch::fresh, Watch::some, Watch::full)) {
            TwoPens x = state.make();
            call.on(x);
            compare(name, x, state.make());
        }
    }

    /** Both answer all questions alike; both are used up then. */
    static void compare(String name, TwoPens x, TwoPens other) {
        List<String> got = seen(x);
        List<String> due = seen(other);
        Due.is(name + ": answers", got.size(), due.size());
        for (int i = 0; i < Math.min(got.size(), due.size()); i++) {
            boolean same = got.get(i).equals(due.get(i));
            Due.is(name + " changed " + due.get(i) + " to " + got.get(i), same ? 1 : 0, 1);
        }
    }

    private static List<String> seen(TwoPens x) {
        List<String> all = new ArrayList<>();
        seeTrace(x, all);
        seeWays(x, all);
        seeLines(x, all);
        seeRest(x, all);
        seeTape(x, all);
        put(all, "way behind", x.way(0, 5, 5));
        put(all, "undo", x.undo());
        seeRest(x, all);
        put(all, "row undone", x.row(0, 0, 1));
        seeTape(x, all);
        return all;
    }

    private static void put(List<String> all, String call, long answer) {
        all.add(call + " = " + answer);
    }

    private static void seeTrace(TwoPens x, List<String> all) {
        put(all, "bodies", x.count(7));
        for (int i = 0; i < 8; i++) {
            put(all, "trace " + i, x.trace(i));
        }
    }

    private static void seeWays(TwoPens x, List<String> all) {
        for (int way = 0; way < x.count(0); way++) {
            for (int what = 0; what < 4; what++) {
                put(all, "of " + way + " " + what, x.of(way, what));
            }
            for (int n = 1; n < 5 && x.of(way, 0) == 6; n++) {
                put(all, "row " + way + " " + n, x.cost(way, n, 0));
            }
        }
    }

    private static void seeLines(TwoPens x, List<String> all) {
        for (int i = 0; i < x.told(0); i++) {
            put(all, "line " + i, x.line(i, 0));
            if (i % 3 == 0) put(all, "sign " + i, x.line(i, 1));
        }
    }

    private static void seeRest(TwoPens x, List<String> all) {
        for (int what = 0; what < 7; what++) {
            put(all, "count " + what, x.count(what));
            put(all, "told " + what, x.told(what));
        }
        for (int i = 0; i < 5; i++) {
            put(all, "place " + i, x.told(10 + i));
        }
        put(all, "whose", x.whose());
        put(all, "looked", x.looked());
        put(all, "safe", x.safe(0));
        for (int cost = 0; cost < 3; cost++) {
            put(all, "stock " + cost, x.stock(cost, 2 - cost));
            put(all, "mean " + cost, x.mean(cost, 2 - cost, 0));
        }
    }

    /** Both tapes that there are end so that this makes a school of them. */
    private static void seeTape(TwoPens x, List<String> all) {
        boolean want = x.count(6) == 2;
        Due.feed(x, want ? "nt 33" : "9");
        put(all, "school", x.school());
        put(all, "WANT", x.told(3));
        put(all, "count", x.told(5));
    }
}
