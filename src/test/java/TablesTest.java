/** Promises 23 to 30: shown, stocks, tables, books. */
public final class TablesTest {
    private static final int NONE = -1, BAD = -2, FULL = -4;
    private static final long NO = Long.MIN_VALUE;

    public static void main(String[] args) {
        promise23();
        promise24();
        promise25();
        promise26();
        promise27();
        promise28();
        promise29();
        promise30();
        Due.end("TablesTest");
    }

    private static void promise23() {
        Due.promise("promise 23");
        TwoPens x = Due.withWays();
        Due.is("no line", x.show(0), NONE);
        Due.is("none", x.show(-1), 0);
        x.write(0, 3);
        x.write(-1, 1);
        Due.is("place 4", x.show(4), NONE);
        Due.is("place -2", x.show(-2), NONE);
        Due.is("first", x.show(0), 1);
        Due.is("a missing one", x.show(3), 2);
        Due.is("the same once more", x.show(0), 3);
        Due.is("fourth", x.show(1), 4);
        Due.is("fifth", x.show(2), 5);
        Due.is("sixth", x.show(2), 6);
        Due.is("full", x.show(2), FULL);
        Due.is("no line ahead of full", x.show(4), NONE);
        Due.is("six", x.count(3), 6);
        Due.is("none then", x.show(-1), 0);
        Due.is("none", x.count(3), 0);
    }

    private static void promise24() {
        Due.promise("promise 24");
        Due.is("no ways", new TwoPens().whose(), 0);
        TwoPens x = Due.withWays();
        Due.is("nothing shown", x.whose(), 63);
        x.write(0, 3);
        x.write(-1, 1);
        x.write(1, 2);
        x.show(4);
        Due.is("no school", x.whose(), 0);
        Due.school(x, "sees 10 w<2;sees 10 v=4");
        Due.is("by sign", x.whose(), 1 + 2 + 8);
        Due.school(x, "sees 10 w=0&m=4;sees 10 v=5;sees 0 w=1");
        Due.is("at one place", x.whose(), 1 + 4);
        x.show(5);
        Due.is("at each place", x.whose(), 4);
        x.show(-1);
        Due.school(x, "sees 10 p=1");
        x.show(5);
        Due.is("the line ahead as it is", x.whose(), 2);
        x.show(2);
        Due.is("by none", x.whose(), 0);
        x.show(-1);
        x.show(1);
        x.show(2);
        Due.is("two places one behind the other", x.whose(), 1);
        x.show(-1);
        x.show(4);
        Due.is("behind a missing one", x.whose(), 0);
        x.show(-1);
        x.show(3);
        Due.is("a missing one", x.whose(), 1);
        Due.is("each place by itself", shownNeighbours(), 0);
    }

    /** Were both by one way at once, the second would be behind one of its own. */
    private static int shownNeighbours() {
        TwoPens x = Due.withWays();
        x.write(0, 1);
        x.write(1, 1);
        x.write(2, 1);
        Due.school(x, "sees 10 m=1;sees 10 p=1");
        x.show(1);
        x.show(2);
        return x.whose() & ~2;
    }

    private static TwoPens days(int... wanted) {
        TwoPens x = new TwoPens();
        for (int n : wanted) {
            x.wanted(n);
        }
        return x;
    }

    private static void promise25() {
        Due.promise("promise 25");
        TwoPens x = new TwoPens();
        Due.is("none", x.wanted(-1), 0);
        Due.is("-2", x.wanted(-2), BAD);
        Due.is("41", x.wanted(41), BAD);
        Due.is("0", x.wanted(0), 1);
        Due.is("40", x.wanted(40), 2);
        Due.is("twice", x.wanted(40), 3);
        for (int i = 4; i <= 8; i++) {
            Due.is("more", x.wanted(i), i);
        }
        Due.is("full", x.wanted(1), FULL);
        Due.is("bad ahead of full", x.wanted(41), BAD);
        Due.is("eight", x.count(4), 8);
        Due.is("none then", x.wanted(-1), 0);
        Due.is("none", x.count(4), 0);
    }

    private static void promise26() {
        Due.promise("promise 26");
        TwoPens x = days(2, 4, 10);
        Due.is("alike", x.stock(1, 1), 4);
        Due.is("lacking is dear", x.stock(1, 9), 10);
        Due.is("leaving is dear", x.stock(9, 1), 2);
        Due.is("leaving costs nothing", x.stock(0, 5), 10);
        Due.is("lacking costs nothing", x.stock(5, 0), 0);
        Due.is("nothing costs", x.stock(0, 0), 0);
        Due.is("of several the least", x.stock(1, 2), 4);
        Due.is("forty", days(40, 40).stock(99, 99), 40);
        Due.is("between two the least", days(3, 9).stock(7, 7), 3);
        Due.is("no days", new TwoPens().stock(1, 1), -5);
        Due.is("over -1", x.stock(-1, 0), BAD);
        Due.is("over 100", x.stock(100, 0), BAD);
        Due.is("lack -1", x.stock(0, -1), BAD);
        Due.is("lack 100", x.stock(0, 100), BAD);
        Due.is("bad without days", new TwoPens().stock(0, 100), BAD);
    }

    private static void mean(TwoPens x, int over, int lack, long above, long below) {
        String call = "mean(" + over + ", " + lack + ")";
        Due.is(call + " above", x.mean(over, lack, 0), above);
        Due.is(call + " below", x.mean(over, lack, 1), below);
    }

    private static void promise27() {
        Due.promise("promise 27");
        TwoPens x = days(2, 4, 10);
        mean(x, 1, 1, 8, 3);
        mean(x, 1, 2, 14, 3);
        mean(x, 9, 1, 10, 3);
        mean(x, 0, 5, 0, 1);
        mean(days(3, 9), 7, 7, 21, 1);
        mean(days(0, 40, 0, 40, 0, 40, 0, 40), 99, 99, 1980, 1);
        mean(days(1, 2, 3, 4), 3, 3, 3, 1);
        mean(days(17), 3, 3, 0, 1);
        Due.is("no days", new TwoPens().mean(1, 1, 0), NO);
        Due.is("part 2", x.mean(1, 1, 2), NO);
        Due.is("part -1", x.mean(1, 1, -1), NO);
        Due.is("over -1", x.mean(-1, 1, 0), NO);
        Due.is("over 100", x.mean(100, 1, 0), NO);
        Due.is("lack -1", x.mean(1, -1, 0), NO);
        Due.is("lack 100", x.mean(1, 100, 0), NO);
    }

    private static void table(int a, int b, int c, int d, long above, long below) {
        TwoPens x = new TwoPens();
        String call = "table(" + a + ", " + b + ", " + c + ", " + d + ")";
        Due.is(call + " above", x.table(a, b, c, d, 0), above);
        Due.is(call + " below", x.table(a, b, c, d, 1), below);
    }

    private static void promise28() {
        Due.promise("promise 28");
        table(1, -1, -1, 1, 0, 1);
        table(3, 1, 0, 2, 3, 2);
        table(-3, 0, 1, -2, -1, 1);
        table(-3, 0, 0, -2, -6, 5);
        table(0, 3, 2, 0, 6, 5);
        table(2, 3, 1, 4, 2, 1);
        table(1, 2, 3, 4, 3, 1);
        table(4, 3, 2, 1, 3, 1);
        table(5, 5, 5, 5, 5, 1);
        table(-5, -6, -7, -8, -6, 1);
        table(0, 0, 0, 0, 0, 1);
        table(99, -99, -99, 99, 0, 1);
        table(99, -99, -98, 99, 99, 395);
        TwoPens x = new TwoPens();
        Due.is("a", x.table(100, 0, 0, 0, 0), NO);
        Due.is("a", x.table(-100, 0, 0, 0, 0), NO);
        Due.is("b", x.table(0, 100, 0, 0, 0), NO);
        Due.is("b", x.table(0, -100, 0, 0, 0), NO);
        Due.is("c", x.table(0, 0, 100, 0, 0), NO);
        Due.is("c", x.table(0, 0, -100, 0, 0), NO);
        Due.is("d", x.table(0, 0, 0, 100, 0), NO);
        Due.is("d", x.table(0, 0, 0, -100, 0), NO);
        Due.is("part 2", x.table(0, 0, 0, 0, 2), NO);
        Due.is("part -1", x.table(1, -1, -1, 1, -1), NO);
    }

    private static void promise29() {
        Due.promise("promise 29");
        TwoPens x = new TwoPens();
        Due.is("none whatever the other is", x.book(-1, 99), 0);
        Due.is("no way", x.book(0, 0), NONE);
        Due.is("way -2", x.book(0, -2), NONE);
        Due.is("way ahead of place", x.book(40, 0), NONE);
        Due.is("place 40", x.book(40, -1), BAD);
        Due.is("place -2", x.book(-2, -1), BAD);
        Due.is("missing", x.book(39, -1), 1);
        x.way(0, 1, 1);
        for (int i = 2; i <= 8; i++) {
            Due.is("more", x.book(0, 0), i);
        }
        Due.is("full", x.book(0, 0), FULL);
        Due.is("no way ahead of full", x.book(0, 1), NONE);
        Due.is("bad ahead of full", x.book(40, 0), BAD);
        Due.is("eight", x.count(5), 8);
        Due.is("none then", x.book(-1, -9), 0);
        Due.is("none", x.count(5), 0);
        Due.is("anew", x.book(1, 0), 1);
    }

    private static void promise30() {
        Due.promise("promise 30");
        TwoPens x = Due.withWays();
        Due.is("no book", x.looked(), -5);
        x.write(0, 2);
        x.write(-1, 1);
        x.book(2, -1);
        Due.is("a missing one", x.looked(), -5);
        x.book(39, -1);
        Due.is("beyond is missing", x.looked(), -5);
        x.book(1, 0);
        Due.is("as it is", x.looked(), -5);
        x.book(3, 0);
        Due.is("the fourth row", x.looked(), 3);
        x.book(0, 1);
        Due.is("still the fourth", x.looked(), 3);
        x.write(0, 1);
        Due.is("the fifth row", x.looked(), 4);
        x.book(-1, 0);
        x.book(0, -1);
        Due.is("not missing", x.looked(), 0);
    }
}
