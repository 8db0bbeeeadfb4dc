/** The bounds of what is shown, stocks, tables and books, sentence by sentence: 'Terms' part 2, promises 23 to 30. */
public final class TableBoundsTest {
    private static final int NONE = -1, BAD = -2, FULL = -4, NOTHING = -5;
    private static final long NO = Long.MIN_VALUE;
    private static final int[] FAR = {Integer.MIN_VALUE, Integer.MAX_VALUE};

    public static void main(String[] args) {
        sixShown();
        showRefused();
        whoseAboveNothing();
        whoseBits();
        eightWanted();
        wantedRefused();
        stockNumber();
        stockRefused();
        mean();
        meanRefused();
        tableNumbers();
        tableRefused();
        eightOfBook();
        bookRefused();
        lookedFirst();
        lookedBeyond();
        lookedNone();
        asksChangeNothing();
        Due.end("TableBoundsTest");
    }

    private static TwoPens one(int kind, int v, int slow) {
        TwoPens x = new TwoPens();
        x.way(kind, v, slow);
        return x;
    }

    private static void sixShown() {
        Due.sentence("SHOWN told by hand: places of THE SHEET where something showed; 6 at most.");
        TwoPens x = one(0, 0, 1);
        Due.is("no lines", x.show(0), NONE);
        x.write(0, 1);
        Due.is("the first line", x.show(0), 1);
        Due.is("one beyond", x.show(1), NONE);
        x.write(-1, 38);
        Due.is("a missing one", x.show(38), 2);
        Due.is("one beyond", x.show(39), NONE);
        x.write(0, 1);
        Due.is("the 40th", x.show(39), 3);
        Due.is("the same once more", x.show(39), 4);
        Due.is("the fifth", x.show(1), 5);
        Due.is("the sixth", x.show(2), 6);
        Due.is("a seventh", x.show(3), FULL);
        Due.is("a seventh there already", x.show(0), FULL);
        Due.is("six", x.count(3), 6);
        Due.is("none then", x.show(-1), 0);
        Due.is("none", x.count(3), 0);
        Due.is("anew", x.show(3), 1);
        Due.school(x, "sees 9 m=3");
        Due.is("the new one alone", x.whose(), 1);
    }

    private static void showRefused() {
        Due.sentence("A place comes to SHOWN: how many there are (-1: none then, 0). NONE: no such line; FULL.");
        Due.is("none of none", new TwoPens().show(-1), 0);
        Due.is("none of six", Watch.full().show(-1), 0);
        for (int place : new int[] {-2, 40, FAR[0], FAR[1]}) {
            Watch.refused("show(" + place + ")", y -> y.show(place), NONE);
        }
        Watch.unchanged("show(10) of ten lines", Watch::some, y -> y.show(10), NONE);
        Due.is("show(9) of ten lines", Watch.some().show(9), 4);
        Watch.unchanged("show(0) without lines", Watch::fresh, y -> y.show(0), NONE);
        Watch.unchanged("a seventh", Watch::full, y -> y.show(0), FULL);
        Watch.unchanged("a seventh", Watch::full, y -> y.show(39), FULL);
    }

    private static void whoseAboveNothing() {
        Due.sentence("WHOSE: those WAYS, as bits, by which, were the line at each such place by it (all others as they are), its SIGN would be above 0.");
        TwoPens x = one(0, 0, 1);
        x.way(0, 1, 1);
        x.way(0, 2, 1);
        x.write(2, 40);
        Due.school(x, "sees 0 w=0;sees 1 w=1;sees 99 w=2;sees 99 w=2");
        x.show(0);
        Due.is("0, 1 and 100", x.whose(), 2 + 4);
        x.show(39);
        Due.is("at the last place, too", x.whose(), 2 + 4);
        Due.school(x, "sees 9 w=0;sees 9 w=1&l<3;sees 9 w=2&l=3");
        Due.is("at each such place", x.whose(), 1);
        for (int i = 1; i < 5; i++) x.show(i);
        Due.is("at six", x.whose(), 1);
        Due.school(x, "sees 9 w=0&m<4;sees 9 w=0&l=3;sees 9 w=1");
        Due.is("but for the sixth", x.whose(), 2);
        TwoPens y = one(0, 0, 1);
        y.way(0, 0, 1);
        y.write(0, 1);
        y.write(-1, 1);
        y.write(1, 2);
        Due.school(y, "sees 9 p=1");
        y.show(0);
        Due.is("at place 0 none is ahead", y.whose(), 0);
        y.show(-1);
        y.show(1);
        Due.is("a missing one as the one ahead", y.whose(), 1);
        y.show(-1);
        y.show(2);
        Due.is("behind a missing one", y.whose(), 0);
        y.show(-1);
        y.show(3);
        Due.is("all others as they are", y.whose(), 2);
        y.show(2);
        Due.is("each by itself", y.whose(), 0);
        y.show(-1);
        y.show(0);
        y.show(1);
        Due.school(y, "sees 9 m=0;sees 9 p=1");
        Due.is("the other shown one as it is", y.whose(), 1);
    }

    private static void whoseBits() {
        Due.sentence("`int whose()`: WHOSE (bits).");
        TwoPens x = new TwoPens();
        Due.is("no ways", x.whose(), 0);
        x.write(-1, 1);
        x.show(0);
        Due.is("no ways and a place", x.whose(), 0);
        x.show(-1);
        for (int i = 0; i < 6; i++) {
            x.way(i, 0, 1);
            Due.is("nothing shown, ways " + (i + 1), x.whose(), (2 << i) - 1);
        }
        x.show(0);
        Due.is("no school, no signs", x.whose(), 0);
        Due.school(x, "sees 1 w<6");
        Due.is("all six", x.whose(), 63);
        Due.school(x, "sees 1 w=5");
        Due.is("the sixth", x.whose(), 32);
        Due.school(x, "sees 1 w=0");
        Due.is("the first", x.whose(), 1);
        Due.school(x, "sees 1 w>5");
        Due.is("none", x.whose(), 0);
    }

    private static void eightWanted() {
        Due.sentence("WANTED told by hand: how many sheets were wanted on days (0 .. 40 each; 8 at most), each day alike likely.");
        TwoPens x = new TwoPens();
        int[] days = {0, 40, 0, 40, 0, 40, 0};
        for (int i = 0; i < 7; i++) {
            Due.is("a day", x.wanted(days[i]), i + 1);
        }
        Due.is("the eighth", x.wanted(16), 8);
        Due.is("a ninth", x.wanted(40), FULL);
        Due.is("eight", x.count(4), 8);
        Due.is("nothing for what is left", x.mean(0, 1, 0), 0);
        Due.is("at 40, one for each left", x.mean(1, 99, 0), (4 * 40 + 24) / 8);
        Due.is("a whole number", x.mean(1, 99, 1), 1);
        Due.is("at 0, one for each lacking", x.mean(99, 1, 0), 17);
        Due.is("none then", x.wanted(-1), 0);
        Due.is("none", x.count(4), 0);
        Due.is("anew", x.wanted(40), 1);
        Due.is("the new one alone", x.stock(1, 1), 40);
    }

    private static void wantedRefused() {
        Due.sentence("A day comes to WANTED: how many there are (-1: none then, 0). BAD; FULL.");
        Due.is("none of none", new TwoPens().wanted(-1), 0);
        Due.is("0", new TwoPens().wanted(0), 1);
        Due.is("40", new TwoPens().wanted(40), 1);
        for (int n : new int[] {-2, 41, FAR[0], FAR[1]}) {
            Watch.refused("wanted(" + n + ")", y -> y.wanted(n), BAD);
        }
        Watch.unchanged("a ninth", Watch::full, y -> y.wanted(0), FULL);
        Watch.unchanged("a ninth", Watch::full, y -> y.wanted(40), FULL);
    }

    private static TwoPens days(int... wanted) {
        TwoPens x = new TwoPens();
        for (int n : wanted) {
            x.wanted(n);
        }
        return x;
    }

    private static void stockNumber() {
        Due.sentence("STOCK of a cost for each sheet that is left and one for each that is lacking (0 .. 99 each): the number (0 .. 40) by which the mean is least, that mean (of several the least).");
        for (int n = 0; n <= 40; n++) {
            Due.is("one day", days(n).stock(1, 1), n);
            Due.is("one day", days(n).stock(99, 99), n);
            Due.is("nothing lacks dearly", days(n).stock(1, 0), 0);
            Due.is("nothing is left dearly", days(n).stock(0, 1), n);
        }
        Due.is("nothing costs", days(40).stock(0, 0), 0);
        Due.is("of several the least", days(0, 40).stock(1, 1), 0);
        Due.is("of several the least", days(1, 40).stock(99, 99), 1);
        Due.is("a little dearer to lack", days(0, 40).stock(98, 99), 40);
        Due.is("a little dearer to have", days(0, 40).stock(99, 98), 0);
        Due.is("three of four", days(1, 2, 3, 4).stock(1, 3), 3);
        Due.is("the fourth of four", days(1, 2, 3, 4).stock(33, 98), 3);
        Due.is("the fourth of four", days(1, 2, 3, 4).stock(32, 97), 4);
        Due.is("eight days", days(0, 0, 0, 0, 0, 0, 0, 40).stock(1, 7), 0);
        Due.is("eight days", days(0, 0, 0, 0, 0, 0, 0, 40).stock(1, 8), 40);
        Due.is("eight days", days(40, 0, 0, 0, 0, 0, 0, 0).stock(1, 8), 40);
    }

    private static void stockRefused() {
        Due.sentence("`int stock(int over, int lack)`: STOCK: the number; -5: no days. BAD: costs.");
        Watch.unchanged("no days", Watch::fresh, y -> y.stock(0, 0), NOTHING);
        Watch.unchanged("no days", Watch::fresh, y -> y.stock(99, 99), NOTHING);
        TwoPens x = days(3, 4);
        x.wanted(-1);
        Due.is("no days any more", x.stock(1, 1), NOTHING);
        for (int cost : new int[] {-1, 100, FAR[0], FAR[1]}) {
            Watch.refused("stock(" + cost + ", 0)", y -> y.stock(cost, 0), BAD);
            Watch.refused("stock(99, " + cost + ")", y -> y.stock(99, cost), BAD);
            Watch.unchanged("stock without days", Watch::fresh, y -> y.stock(cost, 0), BAD);
            Watch.unchanged("stock without days", Watch::fresh, y -> y.stock(0, cost), BAD);
        }
        Due.is("the greatest", days(7).stock(99, 99), 7);
        Due.is("the least", days(7).stock(0, 0), 0);
    }

    private static void mean(TwoPens x, int over, int lack, long above, long below) {
        Due.is("mean(" + over + ", " + lack + ") above", x.mean(over, lack, 0), above);
        Due.is("mean(" + over + ", " + lack + ") below", x.mean(over, lack, 1), below);
    }

    private static void mean() {
        Due.sentence("by which the mean is least, that mean (of several the least).");
        mean(days(40), 99, 99, 0, 1);
        mean(days(0), 99, 99, 0, 1);
        mean(days(0, 40), 99, 99, 40 * 99 / 2, 1);
        mean(days(0, 0, 0, 0, 40, 40, 40, 40), 99, 99, 4 * 40 * 99 / 8, 1);
        mean(days(0, 0, 0, 0, 0, 0, 0, 1), 99, 99, 99, 8);
        mean(days(0, 1, 1, 1, 1, 1, 1, 1), 98, 99, 49, 4);
        mean(days(0, 40), 0, 99, 0, 1);
        mean(days(0, 40), 99, 0, 0, 1);
        mean(days(0, 0, 1), 1, 1, 1, 3);
        mean(days(0, 1, 2), 3, 3, 2, 1);
    }

    private static void meanRefused() {
        Due.sentence("The mean of STOCK. NO: costs, part, no days.");
        for (int part = 0; part < 2; part++) {
            int it = part;
            Watch.unchanged("no days", Watch::fresh, y -> y.mean(1, 1, it), NO);
            for (int cost : new int[] {-1, 100, FAR[0], FAR[1]}) {
                Watch.refused("mean(" + cost + ", 0, part)", y -> y.mean(cost, 0, it), NO);
                Watch.refused("mean(99, " + cost + ", part)", y -> y.mean(99, cost, it), NO);
            }
        }
        for (int part : new int[] {-1, 2, FAR[0], FAR[1]}) {
            Watch.refused("mean(1, 1, " + part + ")", y -> y.mean(1, 1, part), NO);
            Watch.unchanged("mean without days", Watch::fresh, y -> y.mean(1, 1, part), NO);
        }
        mean(days(7), 0, 0, 0, 1);
        mean(days(7, 8), 99, 99, 99, 2);
    }

    private static void table(int a, int b, int c, int d, long above, long below) {
        TwoPens x = new TwoPens();
        String call = "table(" + a + ", " + b + ", " + c + ", " + d + ")";
        Due.is(call + " above", x.table(a, b, c, d, 0), above);
        Due.is(call + " below", x.table(a, b, c, d, 1), below);
    }

    private static void tableNumbers() {
        Due.sentence("TABLE of four numbers a, b, c, d (-99 .. 99): one takes a row (a, b or c, d), the other one a column, neither knowing: what the first can be sure of in the mean, if each draws as it likes: a fraction in lowest terms.");
        table(99, 99, 99, 99, 99, 1);
        table(-99, -99, -99, -99, -99, 1);
        table(99, -99, -99, 99, 0, 1);
        table(-99, 99, 99, -99, 0, 1);
        table(99, -99, -99, 98, -99, 395);
        table(98, -99, -99, 99, -99, 395);
        table(99, -99, -98, 99, 99, 395);
        table(99, 98, 98, 99, 197, 2);
        table(-99, -98, -98, -99, -197, 2);
        table(1, 0, 0, 1, 1, 2);
        table(-1, 0, 0, -1, -1, 2);
        table(0, 1, 1, 0, 1, 2);
        table(1, 0, 0, 2, 2, 3);
        table(1, 0, 0, 0, 0, 1);
        table(1, 1, 0, 2, 1, 1);
        table(1, 0, 1, 0, 0, 1);
        table(1, 1, 0, 0, 1, 1);
        table(0, 2, 1, 1, 1, 1);
        table(2, 1, 1, 2, 3, 2);
        table(5, 1, 2, 3, 13, 5);
        table(0, 0, 0, 0, 0, 1);
        table(-7, 0, 0, -7, -7, 2);
        table(6, 4, 2, 8, 5, 1);
        table(8, 2, 4, 6, 5, 1);
    }

    private static void tableRefused() {
        Due.sentence("`long table(int a, int b, int c, int d, int part)`: TABLE. NO: a number is not as told, part.");
        for (int n : new int[] {-100, 100, FAR[0], FAR[1]}) {
            for (int part = 0; part < 2; part++) {
                int it = part;
                Watch.refused("table a " + n, y -> y.table(n, 1, 0, 1, it), NO);
                Watch.refused("table b " + n, y -> y.table(1, n, 0, 1, it), NO);
                Watch.refused("table c " + n, y -> y.table(1, 0, n, 1, it), NO);
                Watch.refused("table d " + n, y -> y.table(1, 0, 1, n, it), NO);
            }
        }
        for (int part : new int[] {-1, 2, FAR[0], FAR[1]}) {
            Watch.refused("table of part " + part, y -> y.table(1, 0, 0, 1, part), NO);
            Watch.refused("table of part " + part, y -> y.table(1, 1, 1, 1, part), NO);
        }
    }

    private static void eightOfBook() {
        Due.sentence("BOOK told by hand: places and WAYS (-1: MISSING); 8 at most.");
        TwoPens x = one(0, 0, 1);
        for (int i = 0; i < 7; i++) {
            Due.is("a row", x.book(39, -1), i + 1);
        }
        Due.is("the eighth", x.book(0, 0), 8);
        Due.is("a ninth", x.book(1, 0), FULL);
        Due.is("eight", x.count(5), 8);
        Due.is("the eighth is looked at", x.looked(), 7);
        x.write(0, 1);
        Due.is("a ninth is none", x.looked(), NOTHING);
        Due.is("none then", x.book(-1, 0), 0);
        Due.is("none", x.count(5), 0);
        Due.is("anew", x.book(0, -1), 1);
        Due.is("the new one", x.looked(), 0);
    }

    private static void bookRefused() {
        Due.sentence("A row comes to BOOK: how many there are (place -1: none then, 0, whatever the other is). NONE: way (-1 .. ); BAD: place (0 .. 39); FULL.");
        for (int way : new int[] {-2, -1, 0, 5, 6, FAR[0], FAR[1]}) {
            Due.is("none of some, way " + way, Watch.some().book(-1, way), 0);
            Due.is("none of eight, way " + way, Watch.full().book(-1, way), 0);
            Due.is("none of none, way " + way, new TwoPens().book(-1, way), 0);
        }
        for (int way : new int[] {-2, 6, FAR[0], FAR[1]}) {
            Watch.refused("book(0, " + way + ")", y -> y.book(0, way), NONE);
            Watch.refused("book(40, " + way + ")", y -> y.book(40, way), NONE);
            Watch.refused("book(-2, " + way + ")", y -> y.book(-2, way), NONE);
        }
        Watch.unchanged("book(0, 4) of four ways", Watch::some, y -> y.book(0, 4), NONE);
        Due.is("book(0, 3) of four ways", Watch.some().book(0, 3), 4);
        for (int place : new int[] {-2, 40, FAR[0], FAR[1]}) {
            Watch.refused("book(" + place + ", 0)", y -> y.book(place, 0), BAD);
            Watch.refused("book(" + place + ", -1)", y -> y.book(place, -1), BAD);
        }
        Due.is("place 0", Watch.some().book(0, 0), 4);
        Due.is("place 39", Watch.some().book(39, -1), 4);
        Watch.unchanged("a ninth", Watch::full, y -> y.book(0, 0), FULL);
        Watch.unchanged("a ninth", Watch::full, y -> y.book(39, -1), FULL);
    }

    private static void lookedFirst() {
        Due.sentence("LOOKED at: the first that is not so on THE SHEET");
        TwoPens x = one(0, 0, 1);
        x.way(1, 0, 1);
        Due.is("no rows", x.looked(), NOTHING);
        x.write(0, 1);
        x.write(1, 1);
        x.write(-1, 1);
        x.write(1, 37);
        int[][] rows = {{0, 0}, {1, 1}, {2, -1}, {39, 1}, {0, 0}, {39, 1}, {2, -1}};
        for (int[] row : rows) {
            x.book(row[0], row[1]);
            Due.is("so it is", x.looked(), NOTHING);
        }
        x.book(39, 0);
        Due.is("the eighth is not", x.looked(), 7);
        x.book(-1, 0);
        x.book(2, 0);
        Due.is("the first is not", x.looked(), 0);
        x.book(1, -1);
        Due.is("the first of two", x.looked(), 0);
        x.book(-1, 0);
        x.book(1, -1);
        Due.is("not missing", x.looked(), 0);
        x.book(-1, 0);
        x.book(0, 0);
        x.book(0, 1);
        x.book(1, 1);
        Due.is("the second", x.looked(), 1);
    }

    private static void lookedBeyond() {
        Due.sentence("(a place beyond it is MISSING) (-5: none)");
        TwoPens x = one(0, 0, 1);
        x.book(0, -1);
        x.book(39, -1);
        Due.is("all beyond", x.looked(), NOTHING);
        x.book(1, 0);
        Due.is("beyond by a way", x.looked(), 2);
        x.write(0, 1);
        Due.is("no longer beyond", x.looked(), 0);
        x.book(-1, -1);
        x.book(0, 0);
        x.book(1, -1);
        Due.is("one beyond", x.looked(), NOTHING);
        x.write(0, 1);
        Due.is("the last line", x.looked(), 1);
        x.tear();
        Due.is("torn", x.looked(), 0);
    }

    private static void lookedNone() {
        Due.sentence("`int looked()`: LOOKED at; -5.");
        Watch.unchanged("no rows, no lines", Watch::fresh, TwoPens::looked, NOTHING);
        TwoPens x = Watch.some();
        Due.is("the third of three", x.looked(), 2);
        x.book(-1, 0);
        Due.is("no rows", x.looked(), NOTHING);
        x.book(9, 2);
        Due.is("the last line", x.looked(), NOTHING);
        x.book(10, -1);
        Due.is("one beyond", x.looked(), NOTHING);
        TwoPens y = one(0, 0, 1);
        y.image();
        y.way(0, 0, 1);
        Due.is("no rows", y.looked(), NOTHING);
        Due.is("the image stays", y.undo(), 1);
    }

    private static void asksChangeNothing() {
        Due.sentence("All that follows is asked, as things are now, and changes nothing.");
        for (int part = 0; part < 2; part++) {
            int it = part;
            Watch.asked("mean", x -> x.mean(7, 9, it));
            Watch.asked("table", x -> x.table(1, 0, 0, 2, it));
            Watch.asked("as", x -> x.as(it, it));
            Watch.asked("trace", x -> x.trace(it));
        }
        Watch.asked("whose", TwoPens::whose);
        Watch.asked("looked", TwoPens::looked);
        Watch.asked("stock", x -> x.stock(7, 9));
    }
}
