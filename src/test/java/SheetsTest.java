/** Promises 1 to 12: schools, ways, sheets. */
public final class SheetsTest {
    private static final int NONE = -1, BAD = -2, STATE = -3, FULL = -4;

    public static void main(String[] args) {
        promise1();
        promise2();
        promise3Clauses();
        promise3Faults();
        promise3Limits();
        promise3Signs();
        promise4();
        promise5();
        promise6();
        promise7();
        promise8();
        promise9();
        promise10();
        promise11();
        promise12();
        Due.end("SheetsTest");
    }

    private static void promise1() {
        Due.promise("promise 1");
        TwoPens x = new TwoPens();
        for (int what = 0; what < 8; what++) {
            Due.is("count(" + what + ")", x.count(what), 0);
        }
        Due.is("lines", x.told(0), 0);
        Due.is("SPENT", x.told(1), 0);
        Due.is("PAID", x.told(2), 0);
        Due.is("WANT", x.told(3), 20);
        Due.is("LOOK", x.told(4), 3);
        Due.is("count", x.told(5), 0);
        Due.is("MISSING", x.told(6), 0);
        Due.is("no image", x.undo(), STATE);
        Due.is("no trace", x.trace(0), NONE);
        TwoPens other = new TwoPens();
        x.way(0, 1, 1);
        Due.is("objects share nothing", other.count(0), 0);
        Due.is("NO", TwoPens.NO, Long.MIN_VALUE);
    }

    private static void promise2() {
        Due.promise("promise 2");
        TwoPens x = new TwoPens();
        Due.is("feed(-1)", x.feed(-1), BAD);
        Due.is("feed(128)", x.feed(128), BAD);
        Due.is("nothing fed", x.count(6), 0);
        Due.is("feed(0)", x.feed(0), 1);
        Due.is("feed(127)", x.feed(127), 2);
        for (int i = 3; i <= 100; i++) {
            Due.is("feed " + i, x.feed('w'), i);
        }
        Due.is("feed beyond 100", x.feed('w'), FULL);
        Due.is("bad and full", x.feed(128), BAD);
        Due.is("still 100", x.count(6), 100);
    }

    private static void promise3Clauses() {
        Due.promise("promise 3");
        TwoPens x = new TwoPens();
        Due.is("first", Due.school(x, "want 18;look 4;count 7"), 0);
        Due.is("WANT", x.told(3), 18);
        Due.is("LOOK", x.told(4), 4);
        Due.is("count", x.told(5), 7);
        Due.is("tape is empty", x.count(6), 0);
        Due.is("a fault", Due.school(x, "want 5;"), -17);
        Due.is("tape is empty by a fault", x.count(6), 0);
        Due.is("the one that held holds", x.told(3), 18);
        Due.is("a fault is no school", x.count(1), 1);
        Due.is("the last of each", Due.school(x, "want 3;want 9;look 1;look 2;count 1;count 0"), 1);
        Due.is("WANT", x.told(3), 9);
        Due.is("LOOK", x.told(4), 2);
        Due.is("count", x.told(5), 0);
        Due.is("least", Due.school(x, "want 0;look 0"), 2);
        Due.is("WANT", x.told(3), 1);
        Due.is("LOOK", x.told(4), 1);
        Due.is("most", Due.school(x, "want 99;look 99;count 99"), 3);
        Due.is("WANT", x.told(3), 40);
        Due.is("LOOK", x.told(4), 5);
        Due.is("count", x.told(5), 99);
        Due.is("no clause of one", Due.school(x, "count 1"), 4);
        Due.is("WANT", x.told(3), 20);
        Due.is("LOOK", x.told(4), 3);
        Due.feed(x, "want 7");
        Due.is("a sixth school", x.school(), FULL);
        Due.is("the tape stays", x.count(6), 6);
        Due.is("the fifth holds", x.told(3), 20);
        Due.feed(x, "7x");
        Due.is("full ahead of a fault", x.school(), FULL);
        Due.is("schools", x.count(1), 5);
    }

    private static void fault(String text, int place) {
        TwoPens x = new TwoPens();
        Due.is("'" + text + "'", Due.school(x, text), -10 - place);
        Due.is("no school by '" + text + "'", x.count(1), 0);
        Due.is("tape by '" + text + "'", x.count(6), 0);
    }

    private static void good(String text) {
        Due.is("'" + text + "'", Due.school(new TwoPens(), text), 0);
    }

    private static void promise3Faults() {
        fault("", 0);
        fault("x", 0);
        fault(";", 0);
        fault(" want 1", 0);
        fault("w", 1);
        fault("wan", 3);
        fault("wand 1", 3);
        fault("want", 4);
        fault("want1", 4);
        fault("want ", 5);
        fault("want  1", 5);
        fault("want x", 5);
        fault("want 01", 6);
        fault("want 100", 7);
        fault("want 1 ", 6);
        fault("want 1;", 7);
        fault("want 1;;", 7);
        fault("want 1; look 1", 7);
        fault("look 1x", 6);
        fault("lock 1", 2);
        fault("count -1", 6);
        fault("coat 1", 2);
        fault("seen 1 w=1", 3);
        fault("sees", 4);
        fault("sees 1", 6);
        fault("sees 1w=1", 6);
        fault("sees 1 ", 7);
        fault("sees 1  w=1", 7);
        fault("sees 05 w=1", 6);
        fault("sees 123 w=1", 7);
        fault("sees w=1", 5);
        fault("sees 1 x=1", 7);
        fault("sees 1 w", 8);
        fault("sees 1 w!1", 8);
        fault("sees 1 w=", 9);
        fault("sees 1 w=x", 9);
        fault("sees 1 w=123", 11);
        fault("sees 1 w=012", 10);
        fault("sees 1 w=1 ", 10);
        fault("sees 1 w=1&", 11);
        fault("sees 1 w=1|", 11);
        fault("sees 1 w=1&&w=1", 11);
        fault("sees 1 w=1)", 10);
        fault("sees 1 (w=1", 11);
        fault("sees 1 (w=1;", 11);
        fault("sees 1 ()", 8);
        fault("sees 1 !", 8);
        fault("sees 1 !&", 8);
        fault("sees 1 w=1!w=1", 10);
        fault("sees 1 w=1(w=1)", 10);
        fault("sees 1 w=1;sees", 15);
        good("sees 0 w<0");
        good("sees 99 p>99");
        good("sees 1 w=1|k<2&v>3|l=0&m=9|p=1");
        good("sees 1 !(w=1|!k=2)&v=3");
        good("want 5;sees 1 w=1;look 2");
    }

    private static void promise3Limits() {
        good("sees 1 !!!!!w=1");
        good("sees 1 (((((w=1)))))");
        good("sees 1 !(!(!w=1))");
        good("sees 1 !(!(!w=1)&!(!w=1))|!!!!!k=0");
        good("sees 1 ((((!w=1&!w=1))))");
        fault("sees 1 !!!!!!w=1", 12);
        fault("sees 1 ((((((w=1))))))", 12);
        fault("sees 1 !(!(!(w=1)))", 12);
        fault("sees 1 ((((!w=1&!!w=1))))", 17);
        good("want 1;want 1;want 1;want 1;want 1;want 1;want 1;want 1;want 1;want 1");
        fault("want 1;want 1;want 1;want 1;want 1;want 1;want 1;want 1;want 1;want 1;want 1", 69);
        fault("want 1;want 1;want 1;want 1;want 1;want 1;want 1;want 1;want 1;want 1;", 69);
        String signs99 = "sees 10 w=1" + "|w=1".repeat(22);
        good(signs99 + "4");
        fault(signs99 + "|", 100);
    }

    private static int sign(TwoPens x, int place) {
        return x.line(place, 1);
    }

    private static void signs(String text, int... due) {
        TwoPens x = Due.withWays();
        x.write(0, 9);
        x.write(1, 3);
        x.write(-1, 1);
        x.write(5, 2);
        Due.is("'" + text + "'", Due.school(x, text), 0);
        int[] places = {0, 1, 8, 9, 10, 12, 13, 14};
        for (int i = 0; i < places.length; i++) {
            Due.is("'" + text + "' at " + places[i], sign(x, places[i]), due[i]);
        }
    }

    /** Lines by ways 0, 0, 0, 1, 1, MISSING, 5, 5 at the places 0, 1, 8, 9, 10, 12, 13, 14. */
    private static void promise3Signs() {
        signs("want 5", 0, 0, 0, 0, 0, 100, 0, 0);
        signs("sees 7 w=1", 0, 0, 0, 7, 7, 100, 0, 0);
        signs("sees 7 w<1", 7, 7, 7, 0, 0, 100, 0, 0);
        signs("sees 7 w>1", 0, 0, 0, 0, 0, 100, 7, 7);
        signs("sees 7 k=5", 0, 0, 0, 0, 0, 100, 7, 7);
        signs("sees 7 v=2", 7, 7, 7, 0, 0, 100, 0, 0);
        signs("sees 7 v<2", 0, 0, 0, 0, 0, 100, 7, 7);
        signs("sees 7 l=0", 7, 7, 7, 7, 0, 100, 0, 0);
        signs("sees 7 l>0", 0, 0, 0, 0, 7, 100, 7, 7);
        signs("sees 7 m=9", 0, 0, 0, 7, 0, 100, 0, 0);
        signs("sees 7 m<1", 7, 0, 0, 0, 7, 100, 0, 0);
        signs("sees 7 p=1", 0, 7, 7, 0, 7, 100, 0, 7);
        signs("sees 7 p=0", 7, 0, 0, 7, 0, 100, 7, 0);
        signs("sees 7 w=99", 0, 0, 0, 0, 0, 100, 0, 0);
        signs("sees 7 w<99", 7, 7, 7, 7, 7, 100, 7, 7);
        signs("sees 7 !w=1", 7, 7, 7, 0, 0, 100, 7, 7);
        signs("sees 7 w=0&m=1", 0, 7, 0, 0, 0, 100, 0, 0);
        signs("sees 7 w=1|m=1", 0, 7, 0, 7, 7, 100, 0, 0);
        signs("sees 7 w=1|w=0&m=1", 0, 7, 0, 7, 7, 100, 0, 0);
        signs("sees 7 m=1&w=0|w=1", 0, 7, 0, 7, 7, 100, 0, 0);
        signs("sees 7 (w=1|w=0)&m=1", 0, 7, 0, 0, 0, 100, 0, 0);
        signs("sees 7 !w=1&m=3", 0, 0, 0, 0, 0, 100, 7, 0);
        signs("sees 7 !(w=1|w=0)", 0, 0, 0, 0, 0, 100, 7, 7);
        signs("sees 7 !!w=1", 0, 0, 0, 7, 7, 100, 0, 0);
        signs("sees 7 w=0;sees 5 m=1;sees 3 l=1", 7, 12, 7, 0, 3, 100, 3, 3);
        signs("sees 60 w=0;sees 50 m=1;sees 30 m=1", 60, 100, 60, 0, 0, 100, 0, 0);
        signs("sees 0 w=0", 0, 0, 0, 0, 0, 100, 0, 0);
    }

    private static void promise4() {
        Due.promise("promise 4");
        TwoPens x = new TwoPens();
        Due.is("kind -1", x.way(-1, 0, 1), NONE);
        Due.is("kind 7", x.way(7, 0, 1), NONE);
        Due.is("kind ahead of v", x.way(7, 10, 0), NONE);
        Due.is("v -1", x.way(0, -1, 1), BAD);
        Due.is("v 10", x.way(0, 10, 1), BAD);
        Due.is("slow 0", x.way(0, 0, 0), BAD);
        Due.is("slow 61", x.way(0, 0, 61), BAD);
        Due.is("none made", x.count(0), 0);
        for (int i = 0; i < 6; i++) {
            Due.is("way " + i, x.way(6 - i, i == 0 ? 9 : 0, i == 0 ? 60 : 1), i);
        }
        Due.is("full", x.way(0, 0, 1), FULL);
        Due.is("kind ahead of full", x.way(7, 0, 1), NONE);
        Due.is("bad ahead of full", x.way(0, 10, 1), BAD);
        Due.is("slow ahead of full", x.way(0, 0, 61), BAD);
        Due.is("six", x.count(0), 6);
    }

    private static void promise5() {
        Due.promise("promise 5");
        TwoPens x = Due.withWays();
        x.write(1, 5);
        x.write(-1, 2);
        x.write(4, 3);
        x.write(1, 1);
        int[][] due = {{0, 2, 10, 0}, {1, 3, 12, 6}, {2, 5, 9, 0}, {3, 4, 1, 0}, {4, 2, 15, 3}, {5, 1, 20, 0}};
        for (int way = 0; way < 6; way++) {
            for (int what = 0; what < 4; what++) {
                Due.is("of(" + way + ", " + what + ")", x.of(way, what), due[way][what]);
            }
        }
        Due.is("way 6", x.of(6, 0), NONE);
        Due.is("way -1", x.of(-1, 3), NONE);
        Due.is("what 4", x.of(0, 4), NONE);
        Due.is("what -1", x.of(0, -1), NONE);
        Due.is("no ways", new TwoPens().of(0, 0), NONE);
    }

    private static void promise6() {
        Due.promise("promise 6");
        TwoPens x = new TwoPens();
        x.way(6, 1, 1);
        x.way(3, 1, 1);
        x.way(6, 1, 1);
        for (int k = 0; k < 4; k++) {
            Due.is("row at first", x.row(0, k, k + 6), 0);
        }
        Due.is("what it was", x.row(0, 2, 0), 8);
        Due.is("what it was", x.row(0, 2, 8), 0);
        Due.is("modulo 1", x.cost(0, 1, 0), 7);
        Due.is("modulo 2", x.cost(0, 2, 0), 8);
        Due.is("modulo 3", x.cost(0, 39, 0), 9);
        Due.is("modulo 0", x.cost(0, 40, 0), 6);
        Due.is("each its own", x.cost(2, 1, 0), 0);
        Due.is("no way", x.row(3, 0, 0), NONE);
        Due.is("way -1", x.row(-1, 0, 0), NONE);
        Due.is("k 4", x.row(0, 4, 0), NONE);
        Due.is("k -1", x.row(0, -1, 0), NONE);
        Due.is("k ahead of n and kind", x.row(1, 4, 10), NONE);
        Due.is("n 10", x.row(0, 0, 10), BAD);
        Due.is("n -1", x.row(0, 0, -1), BAD);
        Due.is("n ahead of kind", x.row(1, 0, 10), BAD);
        Due.is("another kind", x.row(1, 0, 1), STATE);
        Due.is("nothing changed", x.row(0, 0, 6), 6);
    }

    private static void promise7() {
        Due.promise("promise 7");
        TwoPens x = Due.withWays();
        Due.is("no way", x.write(6, 1), NONE);
        Due.is("way -2", x.write(-2, 1), NONE);
        Due.is("way ahead of n", x.write(6, 0), NONE);
        Due.is("n 0", x.write(0, 0), BAD);
        Due.is("n 41", x.write(0, 41), BAD);
        Due.is("n of missing", x.write(-1, 0), BAD);
        Due.is("nothing written", x.told(0) + x.told(1), 0);
        Due.is("write", x.write(0, 25), 25);
        Due.is("SPENT", x.told(1), 290);
        Due.is("missing", x.write(-1, 3), 28);
        Due.is("no run", x.told(1), 290);
        Due.is("lent", x.write(3, 7), 35);
        Due.is("SPENT", x.told(1), 290);
        Due.is("PAID", x.told(2), 28);
        Due.is("too many", x.write(0, 6), FULL);
        Due.is("too many missing", x.write(-1, 6), FULL);
        Due.is("bad ahead of full", x.write(0, 41), BAD);
        Due.is("to the end", x.write(1, 5), 40);
        Due.is("SPENT", x.told(1), 290 + 42);
        Due.is("full", x.write(0, 1), FULL);
        TwoPens y = Due.withWays();
        Due.is("forty", y.write(0, 40), 40);
        TwoPens z = Due.withWays();
        z.write(1, 1);
        z.write(1, 1);
        Due.is("two runs, not one", z.told(1), 24);
        Due.is("missing without ways", new TwoPens().write(-1, 40), 40);
    }

    private static void promise8() {
        Due.promise("promise 8");
        TwoPens x = Due.withWays();
        Due.is("empty", x.tear(), 0);
        x.write(0, 5);
        x.write(3, 5);
        x.show(2);
        x.looks(3);
        x.wanted(1);
        x.book(1, 0);
        Due.is("tear", x.tear(), 10);
        Due.is("lines", x.told(0), 0);
        Due.is("SPENT", x.told(1), 0);
        Due.is("PAID", x.told(2), 0);
        Due.is("SHOWN", x.count(3), 0);
        Due.is("PLACES stay", x.count(2), 1);
        Due.is("WANTED stays", x.count(4), 1);
        Due.is("BOOK stays", x.count(5), 1);
        Due.is("WAYS stay", x.count(0), 6);
        Due.is("no line", x.line(0, 0), NONE);
        Due.is("anew", x.write(1, 2), 2);
    }

    private static void promise9() {
        Due.promise("promise 9");
        TwoPens x = Due.withWays();
        Due.is("no lines", x.line(0, 0), NONE);
        x.write(4, 2);
        x.write(-1, 1);
        x.write(0, 1);
        Due.school(x, "sees 30 k=4;sees 4 p=1");
        Due.is("way", x.line(0, 0), 4);
        Due.is("sign", x.line(0, 1), 30);
        Due.is("sign with p", x.line(1, 1), 34);
        Due.is("missing", x.line(2, 0), -5);
        Due.is("missing's sign", x.line(2, 1), 100);
        Due.is("behind a missing one", x.line(3, 1), 0);
        Due.is("place 4", x.line(4, 0), NONE);
        Due.is("place -1", x.line(-1, 0), NONE);
        Due.is("what 2", x.line(0, 2), NONE);
        Due.is("what -1", x.line(0, -1), NONE);
        TwoPens y = new TwoPens();
        y.write(-1, 2);
        Due.school(y, "sees 1 p=1");
        Due.is("a missing one without ways", y.line(1, 1), 100);
    }

    private static void places(TwoPens x, int... due) {
        for (int i = 0; i < due.length; i++) {
            Due.is("place " + i, x.told(10 + i), due[i]);
        }
        for (int i = due.length; i < 7; i++) {
            Due.is("no place " + i, x.told(10 + i), NONE);
        }
    }

    private static void promise10() {
        Due.promise("promise 10");
        TwoPens x = Due.withWays();
        x.write(0, 12);
        x.write(-1, 3);
        x.write(3, 2);
        x.write(-1, 1);
        Due.school(x, "want 17;look 2;count 9");
        int[] due = {18, 124, 8, 17, 2, 9, 4};
        for (int what = 0; what < due.length; what++) {
            Due.is("told(" + what + ")", x.told(what), due[what]);
        }
        for (int what : new int[] {-1, 7, 8, 9, 15, 20, Integer.MIN_VALUE, Integer.MAX_VALUE}) {
            Due.is("told(" + what + ")", x.told(what), NONE);
        }
        places(x, 0, 16);
        Due.school(x, "want 17;look 1");
        places(x, 0);
        Due.school(x, "want 17;look 5");
        places(x, 0, 16, 8);
        Due.school(x, "want 2;look 3");
        places(x, 0, 1);
        Due.school(x, "want 1;look 4");
        places(x, 0);
        TwoPens y = new TwoPens();
        Due.school(y, "want 3");
        places(y, 0, 2, 1);
        Due.school(y, "want 40;look 1");
        y.looks(39);
        y.looks(7);
        places(y, 39, 7);
        y.looks(-1);
        places(y, 0);
    }

    private static void promise11() {
        Due.promise("promise 11");
        TwoPens x = Due.withWays();
        int[] n = {1, 2, 3, 7, 10, 11, 40};
        int[][] seconds = {
            {10, 20, 30, 70, 100, 112, 520},
            {12, 15, 27, 57, 75, 87, 300},
            {9, 13, 17, 33, 45, 49, 165},
            {0, 0, 0, 0, 0, 0, 0},
            {15, 17, 19, 53, 72, 74, 262},
            {11, 12, 22, 44, 56, 66, 221},
        };
        for (int way = 0; way < 6; way++) {
            for (int i = 0; i < n.length; i++) {
                Due.is("cost(" + way + ", " + n[i] + ", 0)", x.cost(way, n[i], 0), seconds[way][i]);
                Due.is("cost(" + way + ", " + n[i] + ", 1)", x.cost(way, n[i], 1), way == 3 ? n[i] * 4 : 0);
            }
        }
        Due.is("nine are no ten", x.cost(0, 9, 0), 90);
        Due.is("nineteen", x.cost(0, 19, 0), 208);
        TwoPens nines = new TwoPens();
        for (int kind = 0; kind < 6; kind++) {
            nines.way(kind, 9, 60 - kind);
        }
        int[] eight = {480, 4 * 68, 8 * 29 + 9, 0, 2 * 74 + 65, 4 * 27 + 9 + 4};
        for (int kind = 0; kind < 6; kind++) {
            Due.is("eight lines by kind " + kind, nines.cost(kind, 8, 0), eight[kind]);
        }
        TwoPens y = new TwoPens();
        y.way(6, 9, 30);
        y.row(0, 3, 5);
        Due.is("told seconds", y.cost(0, 7, 0), 5);
        Due.is("told seconds", y.cost(0, 8, 0), 0);
        Due.is("told pence", y.cost(0, 40, 1), 360);
        Due.is("no way", x.cost(6, 1, 0), NONE);
        Due.is("way -1", x.cost(-1, 1, 0), NONE);
        Due.is("what 2", x.cost(0, 1, 2), NONE);
        Due.is("what -1", x.cost(0, 1, -1), NONE);
        Due.is("what ahead of n", x.cost(0, 0, 2), NONE);
        Due.is("n 0", x.cost(0, 0, 1), BAD);
        Due.is("n 41", x.cost(0, 41, 1), BAD);
    }

    private static void promise12() {
        Due.promise("promise 12");
        TwoPens x = new TwoPens();
        Due.is("none", x.looks(-1), 0);
        Due.is("place 39", x.looks(39), 1);
        Due.is("place 0", x.looks(0), 2);
        Due.is("there already", x.looks(39), BAD);
        Due.is("place 40", x.looks(40), BAD);
        Due.is("place -2", x.looks(-2), BAD);
        Due.is("two", x.count(2), 2);
        Due.is("third", x.looks(5), 3);
        Due.is("fourth", x.looks(6), 4);
        Due.is("fifth", x.looks(7), 5);
        Due.is("sixth", x.looks(8), FULL);
        Due.is("there already ahead of full", x.looks(5), BAD);
        Due.is("bad ahead of full", x.looks(40), BAD);
        Due.is("five", x.count(2), 5);
        Due.is("fifth", x.told(14), 7);
        Due.is("none", x.looks(-1), 0);
        Due.is("none", x.count(2), 0);
        Due.is("again", x.looks(5), 1);
    }
}
