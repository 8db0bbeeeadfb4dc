/** The bounds of ways, sheets, seconds, signs and places, sentence by sentence: 'Terms' part 1, promises 1 and 4 to 12. */
public final class SheetBoundsTest {
    private static final int NONE = -1, BAD = -2, STATE = -3, FULL = -4;
    private static final long NO = Long.MIN_VALUE;
    private static final int[] FAR = {Integer.MIN_VALUE, Integer.MAX_VALUE};

    public static void main(String[] args) {
        newObject();
        sixWays();
        kinds();
        numberV();
        slow();
        wayRefused();
        rowOfFour();
        rowRefused();
        linesByAWay();
        fortyLines();
        missing();
        runWrittenAtOnce();
        noRun();
        placeByTen();
        placeModuloTen();
        lineAhead();
        lineSeconds();
        twinSeconds();
        columnSeconds();
        lentSeconds();
        tripleSeconds();
        copiedSeconds();
        toldSeconds();
        pence();
        costRefused();
        signs();
        spentAndPaid();
        placesByHand();
        placesTold();
        noPlacesTold();
        beyondTheSheet();
        fewerThanWant();
        tear();
        line();
        told();
        Due.end("SheetBoundsTest");
    }

    private static TwoPens one(int kind, int v, int slow) {
        TwoPens x = new TwoPens();
        x.way(kind, v, slow);
        return x;
    }

    private static void newObject() {
        Due.sentence("No WAYS, an empty SHEET, no SCHOOL.");
        TwoPens x = new TwoPens();
        for (int what = 0; what < 8; what++) {
            Due.is("count(" + what + ")", x.count(what), 0);
        }
        int[] told = {0, 0, 0, 20, 3, 0, 0, NONE, NONE, NONE, 0, 19, 10, NONE};
        for (int what = 0; what < told.length; what++) {
            Due.is("told(" + what + ")", x.told(what), told[what]);
        }
        Due.is("a way", x.of(0, 0), NONE);
        Due.is("a row", x.row(0, 0, 0), NONE);
        Due.is("a cost", x.cost(0, 1, 0), NONE);
        Due.is("a line", x.line(0, 0), NONE);
        Due.is("a run", x.write(0, 1), NONE);
        Due.is("a trace", x.trace(0), NONE);
        Due.is("an act", x.act(0, 0, 1), 0);
        Due.is("an image", x.undo(), STATE);
        Due.is("quick", x.quick(1, 0, 0), -5);
        Due.is("change", x.change(1, 0, 0), -5);
        Due.is("rests", x.rests(0, 1, 0, 0), NONE);
        Due.is("mend", x.mend(0), NONE);
        Due.is("left", x.left(), 0);
        Due.is("longest", x.longest(0), -5);
        Due.is("show", x.show(0), NONE);
        Due.is("whose", x.whose(), 0);
        Due.is("stock", x.stock(0, 0), -5);
        Due.is("mean", x.mean(0, 0, 0), NO);
        Due.is("looked", x.looked(), -5);
        Due.is("tear", x.tear(), 0);
        Due.is("an object beside it", Watch.some().count(0), 4);
        Watch.compare("an object beside it", x, new TwoPens());
    }

    private static void sixWays() {
        Due.sentence("WAYS are numbered from 0 on, 6 at most");
        TwoPens x = new TwoPens();
        for (int i = 0; i < 6; i++) {
            Due.is("not yet", x.of(i, 0), NONE);
            Due.is("way " + i, x.way(i, i, i + 1), i);
            Due.is("its kind", x.of(i, 0), i);
            Due.is("how many", x.count(0), i + 1);
        }
        Due.is("a seventh", x.way(0, 0, 1), FULL);
        Due.is("no way 6", x.of(6, 0), NONE);
        Due.is("how many", x.count(0), 6);
        Due.is("the last one stays", x.of(5, 1), 5);
        Due.is("lines by the last one", x.write(5, 1), 1);
        Watch.unchanged("a seventh", Watch::full, y -> y.way(3, 1, 1), FULL);
    }

    private static void kinds() {
        Due.sentence("0 LINE; 1 TWIN, 2 COLUMN, 3 LENT under LINE; 4 TRIPLE under TWIN; 5 COPIED under COLUMN; 6 TOLD under LENT");
        for (int kind = 0; kind < 7; kind++) {
            TwoPens x = new TwoPens();
            Due.is("kind " + kind, x.way(kind, 1, 1), 0);
            Due.is("its kind", x.of(0, 0), kind);
        }
        for (int kind : new int[] {-1, 7, FAR[0], FAR[1]}) {
            Watch.refused("way(" + kind + ", 1, 1)", y -> y.way(kind, 1, 1), NONE);
        }
    }

    private static void numberV() {
        Due.sentence("a number v (0 .. 9)");
        for (int kind = 0; kind < 7; kind++) {
            for (int v = 0; v < 10; v += 9) {
                Due.is("v " + v, one(kind, v, 1).of(0, 1), v);
                Due.is("v " + v, one(kind, v, 1).as(0, 0), v);
            }
        }
        for (int v : new int[] {-1, 10, FAR[0], FAR[1]}) {
            Watch.refused("way(6, " + v + ", 1)", y -> y.way(6, v, 1), BAD);
        }
    }

    private static void slow() {
        Due.sentence("SLOW (1 .. 60 seconds)");
        for (int slow : new int[] {1, 2, 59, 60}) {
            Due.is("slow " + slow, one(0, 0, slow).of(0, 2), slow);
            Due.is("a line", one(0, 0, slow).cost(0, 1, 0), slow);
        }
        for (int slow : new int[] {0, -1, 61, FAR[0], FAR[1]}) {
            Watch.refused("way(0, 0, " + slow + ")", y -> y.way(0, 0, slow), BAD);
        }
    }

    private static void wayRefused() {
        Due.sentence("A WAY: its number. NONE: kind; BAD: v, slow; FULL.");
        Due.is("the last free number", fiveWays().way(6, 9, 60), 5);
        Watch.unchanged("no free number", Watch::full, y -> y.way(6, 9, 60), FULL);
        Watch.unchanged("no kind ahead of full", Watch::full, y -> y.way(7, 9, 60), NONE);
        Watch.unchanged("v ahead of full", Watch::full, y -> y.way(6, 10, 60), BAD);
        Watch.unchanged("slow ahead of full", Watch::full, y -> y.way(6, 9, 61), BAD);
        TwoPens x = fiveWays();
        x.way(7, 0, 1);
        x.way(0, 10, 1);
        x.way(0, 0, 0);
        Due.is("refused ones take no number", x.way(0, 0, 1), 5);
    }

    private static TwoPens fiveWays() {
        TwoPens x = new TwoPens();
        for (int i = 0; i < 5; i++) x.way(i, 0, 1);
        return x;
    }

    private static void rowOfFour() {
        Due.sentence("TOLD ones a ROW of four numbers (0 .. 9; 0 at first).");
        TwoPens x = one(6, 9, 60);
        x.way(6, 9, 60);
        for (int k = 0; k < 4; k++) {
            Due.is("at first", x.cost(0, 4 + k, 0), 0);
            Due.is("at first", x.row(0, k, 9), 0);
            Due.is("what it was", x.row(0, k, 0), 9);
            Due.is("what it was", x.row(0, k, 9 - k), 0);
        }
        for (int k = 0; k < 4; k++) {
            Due.is("lines modulo 4 being " + k, x.cost(0, 36 + k, 0), 9 - k);
            Due.is("another way's", x.cost(1, 36 + k, 0), 0);
            Due.is("what it was", x.row(0, k, 1), 9 - k);
        }
        x.image();
        x.row(0, 3, 5);
        x.undo();
        Due.is("undone", x.row(0, 3, 5), 1);
    }

    private static void rowRefused() {
        Due.sentence("The ROW of a TOLD one becomes n (0 .. 9) for lines modulo 4 being k: what it was. NONE: way, k; BAD; STATE: another KIND.");
        for (int k : new int[] {-1, 4, FAR[0], FAR[1]}) {
            Watch.refused("row(0, " + k + ", 1)", y -> y.row(0, k, 1), NONE);
            Watch.refused("row(1, " + k + ", 10)", y -> y.row(1, k, 10), NONE);
        }
        for (int n : new int[] {-1, 10, FAR[0], FAR[1]}) {
            Watch.refused("row(0, 0, " + n + ")", y -> y.row(0, 0, n), BAD);
            Watch.refused("row(1, 3, " + n + ")", y -> y.row(1, 3, n), BAD);
        }
        Watch.refused("row(1, 3, 9)", y -> y.row(1, 3, 9), STATE);
        Watch.refused("row(6, 0, 0)", y -> y.row(6, 0, 0), NONE);
        Watch.refused("row(-1, 0, 0)", y -> y.row(-1, 0, 0), NONE);
        Watch.unchanged("row(4, 0, 0)", Watch::some, y -> y.row(4, 0, 0), NONE);
        for (int kind = 0; kind < 7; kind++) {
            Due.is("kind " + kind, one(kind, 0, 1).row(0, 0, 1), kind == 6 ? 0 : STATE);
        }
    }

    private static void linesByAWay() {
        Due.sentence("Of a WAY what 0 KIND, 1 v, 2 SLOW, 3 how many lines of THE SHEET are by it. NONE.");
        TwoPens x = one(1, 0, 1);
        x.way(0, 9, 60);
        Due.is("none", x.of(0, 3), 0);
        x.write(-1, 5);
        Due.is("missing ones are by none", x.of(0, 3), 0);
        x.write(0, 34);
        x.write(1, 1);
        Due.is("34", x.of(0, 3), 34);
        Due.is("the last line", x.of(1, 3), 1);
        x.tear();
        x.write(1, 40);
        Due.is("all", x.of(1, 3), 40);
        Due.is("none", x.of(0, 3), 0);
        for (int what : new int[] {-1, 4, FAR[0], FAR[1]}) {
            Watch.refused("of(0, " + what + ")", y -> y.of(0, what), NONE);
        }
        for (int way : new int[] {-1, 6, FAR[0], FAR[1]}) {
            Watch.refused("of(" + way + ", 3)", y -> y.of(way, 3), NONE);
        }
        Watch.unchanged("of(4, 0)", Watch::some, y -> y.of(4, 0), NONE);
        Watch.unchanged("of(3, 0)", Watch::some, y -> y.of(3, 0), 5);
    }

    private static void fortyLines() {
        Due.sentence("A RUN of n lines (1 .. 40) is written behind all");
        Due.is("forty at once", one(0, 1, 1).write(0, 40), 40);
        Due.is("one", one(0, 1, 1).write(0, 1), 1);
        TwoPens x = one(0, 1, 1);
        Due.is("39", x.write(0, 39), 39);
        Due.is("two are too many", x.write(0, 2), FULL);
        Due.is("two missing, too", x.write(-1, 2), FULL);
        Due.is("still 39", x.told(0), 39);
        Due.is("one fits", x.write(0, 1), 40);
        Due.is("none more", x.write(0, 1), FULL);
        Due.is("no missing one more", x.write(-1, 1), FULL);
        for (int i = 1; i <= 40; i++) {
            TwoPens y = one(0, 1, 1);
            y.write(0, i);
            Due.is("to the end from " + i, y.write(0, 41 - i), FULL);
            if (i < 40) Due.is("to the end from " + i, y.write(0, 40 - i), 40);
        }
        for (int n : new int[] {0, -1, 41, FAR[0], FAR[1]}) {
            Watch.refused("write(0, " + n + ")", y -> y.write(0, n), BAD);
            Watch.refused("write(-1, " + n + ")", y -> y.write(-1, n), BAD);
            Watch.refused("write(6, " + n + ")", y -> y.write(6, n), NONE);
        }
        for (int way : new int[] {-2, 6, FAR[0], FAR[1]}) {
            Watch.refused("write(" + way + ", 1)", y -> y.write(way, 1), NONE);
        }
        Watch.unchanged("write(4, 1)", Watch::some, y -> y.write(4, 1), NONE);
        Watch.unchanged("write(0, 31)", Watch::some, y -> y.write(0, 31), FULL);
        Watch.unchanged("write(-1, 31)", Watch::some, y -> y.write(-1, 31), FULL);
        Watch.unchanged("write(0, 1) when full", Watch::full, y -> y.write(0, 1), FULL);
        Watch.unchanged("write(-1, 1) when full", Watch::full, y -> y.write(-1, 1), FULL);
        Due.is("30 fit", Watch.some().write(0, 30), 40);
        Due.is("30 missing ones fit", Watch.some().write(-1, 30), 40);
    }

    private static void missing() {
        Due.sentence("THE SHEET: its lines, 40 at most, each written by a WAY, or MISSING (none at first)");
        TwoPens x = new TwoPens();
        Due.is("no lines at first", x.told(0), 0);
        Due.is("none missing", x.told(6), 0);
        Due.is("forty missing ones without ways", x.write(-1, 40), 40);
        Due.is("all missing", x.told(6), 40);
        Due.is("a way of the last", x.line(39, 0), -5);
        Due.is("a sign of the last", x.line(39, 1), 100);
        x.tear();
        Due.is("none missing", x.told(6), 0);
        x.way(0, 0, 1);
        x.write(0, 1);
        Due.is("by the first way", x.line(0, 0), 0);
        Due.is("none missing", x.told(6), 0);
    }

    private static void runWrittenAtOnce() {
        Due.sentence("A RUN: lines of one WAY, one behind the other, written at once.");
        TwoPens x = one(0, 5, 10);
        x.write(0, 10);
        x.write(0, 10);
        Due.is("each from its own first line", x.told(1), 200);
        x.tear();
        x.write(0, 20);
        Due.is("one run", x.told(1), 250);
        TwoPens y = one(2, 5, 10);
        y.write(0, 1);
        y.write(0, 1);
        Due.is("a ruler for each", y.told(1), 20);
    }

    private static void noRun() {
        Due.sentence("(way -1: n are left out, MISSING; no RUN): how many lines there are. NONE; BAD; FULL: more than 40.");
        TwoPens x = one(6, 9, 60);
        for (int k = 0; k < 4; k++) x.row(0, k, 9);
        Due.is("left out", x.write(-1, 1), 1);
        Due.is("left out", x.write(-1, 39), 40);
        Due.is("no seconds", x.told(1), 0);
        Due.is("no pence", x.told(2), 0);
        Due.is("missing", x.told(6), 40);
        Due.is("one more", x.write(-1, 1), FULL);
        Due.is("missing", x.told(6), 40);
    }

    /** Signs tell tens and ones of each place: 1 for each ten ahead, 10 for a ten's last line. */
    private static void placeByTen() {
        Due.sentence("l its place by 10 (cut)");
        TwoPens x = one(0, 0, 1);
        x.write(0, 40);
        Due.school(x, "sees 1 l=1;sees 2 l=2;sees 3 l=3;sees 50 l>3;sees 50 l<0");
        for (int i = 0; i < 40; i++) {
            Due.is("place " + i, x.line(i, 1), i / 10);
        }
    }

    private static void placeModuloTen() {
        Due.sentence("m its place modulo 10");
        TwoPens x = one(0, 0, 1);
        x.write(0, 40);
        Due.school(x, "sees 1 m>0&m<9;sees 20 m=0;sees 30 m=9;sees 50 m>9;sees 50 m<0");
        for (int i = 0; i < 40; i++) {
            Due.is("place " + i, x.line(i, 1), i % 10 == 0 ? 20 : i % 10 == 9 ? 30 : 1);
        }
    }

    private static void lineAhead() {
        Due.sentence("p whether the line ahead of it is by the same WAY (1, 0; at place 0: 0)");
        TwoPens x = one(0, 3, 7);
        x.way(0, 3, 7);
        Due.school(x, "sees 1 p=1;sees 2 p=0;sees 50 p>1;sees 50 p<0");
        x.write(0, 2);
        x.write(0, 1);
        x.write(1, 2);
        x.write(-1, 1);
        x.write(1, 1);
        x.write(-1, 2);
        x.write(0, 31);
        int[] due = {2, 1, 1, 2, 1, 100, 2, 100, 100, 2, 1};
        for (int i = 0; i < due.length; i++) {
            Due.is("place " + i, x.line(i, 1), due[i]);
        }
        Due.is("the last place", x.line(39, 1), 1);
        TwoPens y = one(0, 0, 1);
        Due.school(y, "sees 1 p=1");
        y.write(-1, 1);
        y.write(0, 1);
        Due.is("behind a missing one at place 0", y.line(1, 1), 0);
    }

    private static void seconds(int kind, int v, int slow, int... due) {
        TwoPens x = one(kind, v, slow);
        for (int n = 1; n <= due.length; n++) {
            Due.is("kind " + kind + ", v " + v + ", slow " + slow + ", lines " + n, x.cost(0, n, 0), due[n - 1]);
        }
    }

    private static void secondsOfForty(int kind, int v, int slow, int due) {
        TwoPens x = one(kind, v, slow);
        Due.is("forty of kind " + kind, x.cost(0, 40, 0), due);
        x.write(0, 40);
        Due.is("written", x.told(1), due);
    }

    private static void lineSeconds() {
        Due.sentence("LINE: SLOW for each, and for the j-th (from 0 on) j by 10 (cut) times v more.");
        seconds(0, 9, 60, 60, 120, 180, 240, 300, 360, 420, 480, 540, 600, 669, 738);
        TwoPens x = one(0, 9, 1);
        int sum = 0;
        for (int n = 1; n <= 40; n++) {
            sum += 1 + (n <= 10 ? 0 : n <= 20 ? 9 : n <= 30 ? 18 : 27);
            Due.is("lines " + n, x.cost(0, n, 0), sum);
        }
        secondsOfForty(0, 9, 60, 2400 + 540);
        secondsOfForty(0, 0, 1, 40);
    }

    private static void twinSeconds() {
        Due.sentence("TWIN: for each two lines SLOW and v, and SLOW for one that is left.");
        seconds(1, 9, 60, 60, 69, 129, 138, 198);
        seconds(1, 0, 1, 1, 1, 2, 2, 3);
        secondsOfForty(1, 9, 60, 20 * 69);
        Due.is("39", one(1, 9, 60).cost(0, 39, 0), 19 * 69 + 60);
    }

    private static void columnSeconds() {
        Due.sentence("COLUMN: the half (cut) of SLOW for each, and v.");
        seconds(2, 9, 1, 9, 9, 9);
        seconds(2, 0, 2, 1, 2, 3);
        seconds(2, 0, 3, 1, 2, 3);
        seconds(2, 9, 59, 38, 67, 96);
        seconds(2, 9, 60, 39, 69, 99);
        secondsOfForty(2, 9, 59, 40 * 29 + 9);
    }

    private static void lentSeconds() {
        Due.sentence("LENT: 0.");
        seconds(3, 9, 60, 0, 0, 0, 0, 0);
        secondsOfForty(3, 9, 60, 0);
    }

    private static void tripleSeconds() {
        Due.sentence("TRIPLE: for each three lines SLOW and two times v, what is left as TWIN.");
        seconds(4, 9, 60, 60, 69, 78, 138, 147, 156, 216, 225);
        seconds(4, 0, 1, 1, 1, 1, 2, 2, 2);
        secondsOfForty(4, 9, 60, 13 * 78 + 60);
        Due.is("38", one(4, 9, 60).cost(0, 38, 0), 12 * 78 + 69);
    }

    private static void copiedSeconds() {
        Due.sentence("COPIED: as COLUMN for the half of the lines (the greater one), 1 for each other one.");
        seconds(5, 9, 60, 39, 40, 70, 71, 101, 102);
        seconds(5, 9, 1, 9, 10, 10, 11, 11);
        secondsOfForty(5, 9, 60, 20 * 30 + 9 + 20);
        Due.is("39", one(5, 9, 60).cost(0, 39, 0), 20 * 30 + 9 + 19);
    }

    private static void toldSeconds() {
        Due.sentence("TOLD: its ROW at n modulo 4.");
        TwoPens x = one(6, 9, 60);
        for (int k = 0; k < 4; k++) x.row(0, k, 9 - k);
        for (int n = 1; n <= 40; n++) {
            Due.is("lines " + n, x.cost(0, n, 0), 9 - n % 4);
        }
        x.write(0, 40);
        Due.is("written", x.told(1), 9);
    }

    private static void pence() {
        Due.sentence("PENCE of it: LENT, TOLD: n times v; others: 0.");
        for (int kind = 0; kind < 7; kind++) {
            boolean paid = kind == 3 || kind == 6;
            TwoPens x = one(kind, 9, 60);
            Due.is("one of kind " + kind, x.cost(0, 1, 1), paid ? 9 : 0);
            Due.is("forty of kind " + kind, x.cost(0, 40, 1), paid ? 360 : 0);
            Due.is("v 0 of kind " + kind, one(kind, 0, 60).cost(0, 40, 1), 0);
            x.write(0, 40);
            Due.is("paid for kind " + kind, x.told(2), paid ? 360 : 0);
        }
    }

    private static void costRefused() {
        Due.sentence("COST: what 0 SECONDS, 1 PENCE. NONE; BAD: n.");
        Due.is("one", one(0, 0, 60).cost(0, 1, 0), 60);
        Due.is("forty", one(0, 0, 60).cost(0, 40, 0), 2400);
        for (int n : new int[] {0, -1, 41, FAR[0], FAR[1]}) {
            Watch.refused("cost(0, " + n + ", 0)", y -> y.cost(0, n, 0), BAD);
            Watch.refused("cost(0, " + n + ", 1)", y -> y.cost(0, n, 1), BAD);
            Watch.refused("cost(0, " + n + ", 2)", y -> y.cost(0, n, 2), NONE);
            Watch.refused("cost(6, " + n + ", 0)", y -> y.cost(6, n, 0), NONE);
        }
        for (int far : new int[] {-1, 2, FAR[0], FAR[1]}) {
            Watch.refused("cost(0, 1, " + far + ")", y -> y.cost(0, 1, far), NONE);
        }
        for (int far : new int[] {-1, 6, FAR[0], FAR[1]}) {
            Watch.refused("cost(" + far + ", 1, 0)", y -> y.cost(far, 1, 0), NONE);
        }
        Watch.unchanged("cost(4, 1, 0)", Watch::some, y -> y.cost(4, 1, 0), NONE);
    }

    private static void sign(String text, int due) {
        TwoPens x = one(0, 0, 1);
        x.write(0, 1);
        Due.is("'" + text + "'", Due.school(x, text), 0);
        Due.is("SIGN by '" + text + "'", x.line(0, 1), due);
        Due.is("SAFE by '" + text + "'", safeAtFirst(x), 100 - due);
    }

    /** Of a hundred, at place 0 alone. */
    private static long safeAtFirst(TwoPens x) {
        x.looks(0);
        return x.safe(0) * (100 / x.safe(1));
    }

    private static void signs() {
        Due.sentence("SIGN of a line: the n of all sees whose E holds, together (100 at most); MISSING: 100.");
        sign("want 20", 0);
        sign("sees 0 w=0", 0);
        sign("sees 1 w=0", 1);
        sign("sees 99 w=0", 99);
        sign("sees 99 w=0;sees 0 w=0", 99);
        sign("sees 99 w=0;sees 1 w=0", 100);
        sign("sees 99 w=0;sees 2 w=0", 100);
        sign("sees 50 w=0;sees 49 w=0", 99);
        sign("sees 50 w=0;sees 50 w=0", 100);
        sign("sees 50 w=0;sees 51 w=0", 100);
        sign("sees 99 w=0" + ";sees 99 k=0".repeat(7), 100);
        sign("sees 99 w=1;sees 7 w=0;sees 99 w=1", 7);
        TwoPens x = one(0, 0, 1);
        x.write(-1, 1);
        Due.school(x, "sees 9 w=0;sees 9 w=9");
        Due.is("MISSING", x.line(0, 1), 100);
        Due.is("SAFE", safeAtFirst(x), 0);
    }

    private static void spentAndPaid() {
        Due.sentence("SPENT, PAID: SECONDS, PENCE of all RUNS that were written, together.");
        TwoPens x = one(0, 9, 60);
        x.way(6, 9, 1);
        x.row(1, 1, 4);
        Due.is("at first", x.told(1) + x.told(2), 0);
        x.write(0, 41);
        x.write(2, 1);
        Due.is("refused ones are none", x.told(1) + x.told(2), 0);
        for (int i = 1; i <= 40; i++) {
            x.write(i % 2, 1);
            Due.is("SPENT", x.told(1), i / 2 * 60 + (i + 1) / 2 * 4);
            Due.is("PAID", x.told(2), (i + 1) / 2 * 9);
        }
        x.write(0, 1);
        Due.is("one too many is none", x.told(1), 20 * 64);
        x.row(1, 1, 9);
        Due.is("a row told later is none of it", x.told(1), 20 * 64);
    }

    private static void placesByHand() {
        Due.sentence("PLACES where he looks: told by hand (5 at most, no two alike)");
        TwoPens x = new TwoPens();
        int[] places = {39, 0, 1, 38, 20};
        for (int i = 0; i < 5; i++) {
            Due.is("place", x.looks(places[i]), i + 1);
            Due.is("there already", x.looks(places[i]), BAD);
            Due.is("how many", x.count(2), i + 1);
        }
        Due.is("a sixth", x.looks(5), FULL);
        for (int i = 0; i < 5; i++) {
            Due.is("in their order", x.told(10 + i), places[i]);
            Due.is("there already, ahead of full", x.looks(places[i]), BAD);
        }
        Due.is("no sixth", x.told(15), NONE);
        Due.is("none then", x.looks(-1), 0);
        Due.is("the same anew", x.looks(39), 1);
        Due.is("another one anew", x.looks(5), 2);
    }

    private static void placesTold() {
        Due.sentence("A place (0 .. 39) comes to PLACES: how many are told (-1: none then, 0). BAD: it is not as told, or there already; FULL.");
        Due.is("the least", new TwoPens().looks(0), 1);
        Due.is("the greatest", new TwoPens().looks(39), 1);
        for (int place : new int[] {-2, 40, FAR[0], FAR[1]}) {
            Watch.refused("looks(" + place + ")", y -> y.looks(place), BAD);
        }
        Watch.unchanged("there already", Watch::some, y -> y.looks(4), BAD);
        Watch.unchanged("there already", Watch::some, y -> y.looks(9), BAD);
        Watch.unchanged("there already when full", Watch::full, y -> y.looks(0), BAD);
        Watch.unchanged("there already when full", Watch::full, y -> y.looks(36), BAD);
        Watch.unchanged("a sixth", Watch::full, y -> y.looks(39), FULL);
        TwoPens x = new TwoPens();
        Due.is("none told, none then", x.looks(-1), 0);
        Due.is("a place of the school's may be told", x.looks(19), 1);
        Due.is("it alone", x.told(11), NONE);
        Due.is("none then", x.looks(-1), 0);
        Due.is("the school's then", x.told(11), 19);
    }

    private static void places(int want, int look, int... due) {
        TwoPens x = new TwoPens();
        Due.school(x, new StringBuilder("want ").append(want).append(";look ").append(look).toString());
        for (int i = 0; i < 6; i++) {
            String call = "place " + i + " of want " + want + ", look " + look;
            Due.is(call, x.told(10 + i), i < due.length ? due[i] : NONE);
        }
        Due.is("none by hand", x.count(2), 0);
    }

    private static void noPlacesTold() {
        Due.sentence("none told: 0, the last of WANT, and the middle one (WANT by 2, cut), as many of these, in this order, as LOOK tells (4 or 5: these three), each once.");
        for (int look = 0; look < 7; look++) {
            places(0, look, 0);
            places(1, look, 0);
        }
        places(2, 1, 0);
        places(2, 2, 0, 1);
        places(2, 3, 0, 1);
        places(2, 5, 0, 1);
        places(3, 1, 0);
        places(3, 2, 0, 2);
        places(3, 3, 0, 2, 1);
        places(3, 4, 0, 2, 1);
        places(4, 5, 0, 3, 2);
        places(20, 0, 0);
        places(20, 2, 0, 19);
        places(21, 3, 0, 20, 10);
        places(39, 4, 0, 38, 19);
        places(40, 5, 0, 39, 20);
        places(41, 6, 0, 39, 20);
        places(99, 99, 0, 39, 20);
    }

    private static void beyondTheSheet() {
        Due.sentence("Nothing is SEEN at a place by 100 less SIGN of a hundred (a place beyond THE SHEET: as MISSING), each by itself;");
        TwoPens x = one(0, 0, 1);
        x.looks(5);
        Due.is("no lines", x.safe(0), 0);
        x.write(0, 5);
        Due.is("one beyond", x.safe(0), 0);
        x.write(0, 1);
        Due.is("the last line", x.safe(0), 1);
        x.looks(39);
        Due.is("far beyond", x.safe(0), 0);
        x.write(0, 33);
        Due.is("one beyond", x.safe(0), 0);
        x.write(0, 1);
        Due.is("the last place", x.safe(0), 1);
        x.tear();
        x.write(0, 5);
        x.write(-1, 35);
        Due.is("missing ones", x.safe(0), 0);
        TwoPens y = one(0, 0, 1);
        y.write(0, 2);
        Due.school(y, "want 2;look 2;sees 1 m=0;sees 99 m=1");
        Due.is("each by itself above", y.safe(0), 99);
        Due.is("each by itself below", y.safe(1), 10000);
    }

    private static void fewerThanWant() {
        Due.sentence("if he counts, and lines that are not MISSING are fewer than WANT, it is SEEN surely.");
        for (int want : new int[] {1, 2, 20, 39, 40}) {
            TwoPens x = one(0, 0, 1);
            Due.school(x, new StringBuilder("look 1;count 1;want ").append(want).toString());
            x.looks(0);
            if (want > 1) {
                x.write(0, want - 1);
                Due.is("one too few for " + want, x.safe(0), 0);
            }
            if (want < 40) {
                x.write(-1, 1);
                Due.is("a missing one for " + want, x.safe(0), 0);
            }
            x.tear();
            x.write(0, want);
            Due.is("enough for " + want, x.safe(0), 1);
            if (want < 40) {
                x.write(-1, 1);
                Due.is("enough and a missing one for " + want, x.safe(0), 1);
                x.tear();
                x.write(0, want + 1);
                Due.is("more for " + want, x.safe(0), 1);
            }
        }
        TwoPens y = one(0, 0, 1);
        Due.school(y, "want 40;count 1");
        y.write(0, 40);
        Due.is("forty of forty", y.safe(0), 1);
        TwoPens z = one(0, 0, 1);
        z.write(0, 1);
        Due.school(z, "want 40;look 1;count 0");
        Due.is("he does not count", z.safe(0), 1);
    }

    private static void tear() {
        Due.sentence("THE SHEET is empty, SPENT, PAID 0, nothing SHOWN: how many lines there were.");
        Due.is("none", new TwoPens().tear(), 0);
        TwoPens x = Watch.full();
        Due.is("forty", x.tear(), 40);
        Due.is("none then", x.tear(), 0);
        Due.is("lines", x.told(0), 0);
        Due.is("SPENT", x.told(1), 0);
        Due.is("PAID", x.told(2), 0);
        Due.is("MISSING", x.told(6), 0);
        Due.is("SHOWN", x.count(3), 0);
        int[] others = {6, 5, 5, 0, 8, 8, 100};
        for (int what = 0; what < 7; what++) {
            Due.is("count(" + what + ")", x.count(what), others[what]);
        }
        Due.is("forty anew", x.write(0, 40), 40);
        for (int i = 0; i < 6; i++) {
            Due.is("six to show anew", x.show(39), i + 1);
        }
        Due.is("a seventh", x.show(39), FULL);
    }

    private static void line() {
        Due.sentence("Of a line what 0 its WAY (-5: MISSING), 1 SIGN. NONE: no such line.");
        TwoPens x = Watch.some();
        Due.is("the first", x.line(0, 0), 0);
        Due.is("the last", x.line(9, 0), 2);
        Due.is("a missing one", x.line(5, 0), -5);
        TwoPens y = Watch.full();
        Due.is("the last with a way", y.line(35, 0), 5);
        Due.is("the 40th", y.line(39, 0), -5);
        for (int place : new int[] {-1, 40, FAR[0], FAR[1]}) {
            Watch.refused("line(" + place + ", 0)", z -> z.line(place, 0), NONE);
            Watch.refused("line(" + place + ", 1)", z -> z.line(place, 1), NONE);
        }
        Watch.unchanged("line(10, 0)", Watch::some, z -> z.line(10, 0), NONE);
        Watch.unchanged("line(10, 1)", Watch::some, z -> z.line(10, 1), NONE);
        for (int what : new int[] {-1, 2, FAR[0], FAR[1]}) {
            Watch.refused("line(0, " + what + ")", z -> z.line(0, what), NONE);
        }
    }

    private static void told() {
        Due.sentence("6 how many are MISSING, 10 and k the k-th of PLACES where he looks. NONE.");
        TwoPens x = Watch.full();
        int[] due = {0, 9, 18, 27, 36};
        for (int k = 0; k < 5; k++) {
            Due.is("place " + k, x.told(10 + k), due[k]);
        }
        Due.is("MISSING", x.told(6), 4);
        for (int what : new int[] {-1, 7, 8, 9, 15, 16, 50, FAR[0], FAR[1]}) {
            Watch.refused("told(" + what + ")", y -> y.told(what), NONE);
        }
        Watch.unchanged("told(12)", Watch::some, y -> y.told(12), NONE);
        Watch.unchanged("told(11)", Watch::some, y -> y.told(11), 9);
    }
}
