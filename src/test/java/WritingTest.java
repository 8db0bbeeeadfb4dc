/** Promises 16 to 22: how to write. */
public final class WritingTest {
    private static final int NONE = -1, BAD = -2;

    public static void main(String[] args) {
        promise16();
        promise17();
        promise17Ties();
        promise18();
        promise19();
        promise20();
        promise21();
        promise22();
        Due.end("WritingTest");
    }

    private static void promise16() {
        Due.promise("promise 16");
        TwoPens x = Due.withWays();
        Due.is("20 for nothing", x.quick(20, 0, 0), 2);
        Due.is("20 for nothing", x.quick(20, 0, 1), 85);
        Due.is("20 for 80", x.quick(20, 80, 0), 3);
        Due.is("20 for 80", x.quick(20, 80, 1), 0);
        Due.is("20 for 79", x.quick(20, 79, 0), 2);
        Due.is("40 for 999", x.quick(40, 999, 0), 3);
        TwoPens y = new TwoPens();
        y.way(3, 9, 1);
        Due.is("none", y.quick(1, 8, 0), -5);
        Due.is("none", y.quick(1, 8, 1), -5);
        Due.is("just", y.quick(1, 9, 0), 0);
        y.way(0, 0, 7);
        y.way(0, 9, 7);
        Due.is("of several the first", y.quick(10, 0, 0), 1);
        Due.is("no ways", new TwoPens().quick(1, 999, 0), -5);
        Due.is("what 2", x.quick(0, 0, 2), NONE);
        Due.is("what -1", x.quick(1, 1, -1), NONE);
        Due.is("n 0", x.quick(0, 0, 0), BAD);
        Due.is("n 41", x.quick(41, 0, 0), BAD);
        Due.is("pence -1", x.quick(1, -1, 0), BAD);
        Due.is("pence 1000", x.quick(1, 1000, 0), BAD);
        Due.is("bad without ways", new TwoPens().quick(0, 0, 0), BAD);
    }

    private static void change(TwoPens x, int n, int pence, int... due) {
        for (int what = 0; what < 4; what++) {
            Due.is("change(" + n + ", " + pence + ", " + what + ")", x.change(n, pence, what), due[what]);
        }
    }

    private static void promise17() {
        Due.promise("promise 17");
        TwoPens x = Due.withWays();
        change(x, 20, 0, 85, 0, 0, 2);
        change(x, 20, 40, 45, 2, 10, 3);
        change(x, 20, 999, 0, 0, 0, 3);
        change(x, 40, 159, 9, 2, 1, 3);
        change(new TwoPens(), 5, 999, -5, -5, -5, -5);
        TwoPens y = new TwoPens();
        y.way(0, 9, 10);
        change(y, 20, 0, 200, 0, 10, 0);
        change(y, 10, 0, 100, 0, 0, 0);
        TwoPens z = new TwoPens();
        z.way(3, 9, 1);
        change(z, 3, 26, -5, -5, -5, -5);
        change(z, 3, 27, 0, 0, 0, 0);
        TwoPens t = new TwoPens();
        t.way(6, 0, 1);
        t.row(0, 0, 9);
        t.row(0, 1, 3);
        t.row(0, 2, 5);
        change(t, 1, 0, 3, 0, 0, 0);
        change(t, 4, 0, 3, 0, 1, 0);
        Due.is("what 4", x.change(0, 0, 4), NONE);
        Due.is("what -1", x.change(1, 0, -1), NONE);
        Due.is("n 0", x.change(0, 0, 0), BAD);
        Due.is("n 41", x.change(41, 0, 0), BAD);
        Due.is("pence -1", x.change(1, -1, 0), BAD);
        Due.is("pence 1000", x.change(1, 1000, 0), BAD);
    }

    private static void promise17Ties() {
        TwoPens x = new TwoPens();
        x.way(0, 0, 60);
        x.way(6, 0, 1);
        x.way(6, 0, 1);
        x.row(1, 1, 9);
        x.row(2, 1, 9);
        change(x, 4, 0, 0, 0, 0, 1);
        change(x, 5, 0, 0, 1, 2, 1);
        x.row(1, 2, 9);
        change(x, 5, 0, 0, 2, 2, 1);
        x.row(1, 3, 9);
        change(x, 5, 0, 0, 2, 2, 2);
        x.row(2, 3, 9);
        change(x, 5, 0, 9, 0, 0, 1);
        TwoPens y = new TwoPens();
        y.way(3, 2, 1);
        y.way(0, 0, 5);
        y.way(0, 0, 5);
        change(y, 4, 4, 10, 0, 2, 1);
        y.way(2, 0, 10);
        change(y, 3, 0, 15, 0, 0, 1);
        TwoPens most = new TwoPens();
        most.way(0, 9, 60);
        for (int i = 0; i < 5; i++) {
            most.way(3, 9, 60);
        }
        change(most, 40, 9, 2400 + 9 * 20, 0, 20, 0);
        change(most, 40, 360, 0, 0, 0, 1);
        change(most, 40, 180, 1200 + 9 * 10, 0, 20, 1);
    }

    private static void promise18() {
        Due.promise("promise 18");
        TwoPens x = Due.withWays();
        rests(x, 0, 30, 5, 3, 310);
        rests(x, 0, 30, 0, 3, 300);
        rests(x, 0, 30, 20, 2, 340);
        rests(x, 0, 30, 21, 2, 341);
        rests(x, 0, 30, 41, 1, 360);
        rests(x, 0, 11, 2, 1, 112);
        rests(x, 0, 11, 1, 2, 111);
        rests(x, 0, 11, 0, 2, 110);
        rests(x, 2, 9, 3, 1, 41);
        rests(x, 3, 40, 0, 1, 0);
        rests(x, 3, 40, 99, 1, 0);
        rests(x, 0, 1, 99, 1, 10);
        TwoPens y = new TwoPens();
        y.way(6, 0, 1);
        y.row(0, 0, 9);
        y.row(0, 1, 8);
        y.row(0, 3, 4);
        rests(y, 0, 5, 1, 2, 5);
        rests(y, 0, 5, 4, 1, 8);
        rests(y, 0, 8, 0, 4, 0);
        rests(y, 0, 8, 3, 1, 9);
        rests(y, 0, 10, 0, 1, 0);
        rests(y, 0, 7, 1, 1, 4);
        y.row(0, 1, 0);
        y.row(0, 2, 9);
        rests(y, 0, 4, 0, 4, 0);
        rests(y, 0, 4, 2, 4, 6);
        rests(y, 0, 4, 3, 1, 9);
        Due.is("no way", x.rests(6, 0, 0, 0), NONE);
        Due.is("way -1", x.rests(-1, 1, 0, 0), NONE);
        Due.is("what 2", x.rests(0, 0, 0, 2), NONE);
        Due.is("what -1", x.rests(0, 1, 0, -1), NONE);
        Due.is("n 0", x.rests(0, 0, 0, 0), BAD);
        Due.is("n 41", x.rests(0, 41, 0, 0), BAD);
        Due.is("r -1", x.rests(0, 1, -1, 0), BAD);
        Due.is("r 100", x.rests(0, 1, 100, 0), BAD);
    }

    private static void rests(TwoPens x, int way, int n, int r, int runs, int seconds) {
        String call = "rests(" + way + ", " + n + ", " + r + ")";
        Due.is(call + " runs", x.rests(way, n, r, 0), runs);
        Due.is(call + " seconds", x.rests(way, n, r, 1), seconds);
    }

    private static void promise19() {
        Due.promise("promise 19");
        TwoPens x = Due.withWays();
        Due.school(x, "want 10;look 3;sees 20 w=0;sees 50 w=1;sees 50 w=3");
        Due.is("no lines", x.mend(2), -5);
        x.write(0, 5);
        x.write(1, 5);
        Due.is("the worst, of several the first", x.mend(2), 9);
        Due.is("the middle one is as bad", x.told(12), 5);
        x.looks(5);
        x.looks(9);
        x.looks(0);
        Due.is("as the places are told", x.mend(2), 5);
        Due.is("no better", x.mend(1), -5);
        Due.is("as bad as they are", x.mend(3), -5);
        Due.is("a little better", x.mend(0), 5);
        x.looks(-1);
        x.tear();
        x.write(2, 9);
        x.write(-1, 1);
        Due.is("a missing one", x.mend(0), 9);
        Due.is("sheet as it was", x.line(9, 0), -5);
        Due.is("no way", x.mend(6), NONE);
        Due.is("way -1", x.mend(-1), NONE);
        promise19Beyond();
        promise19CountAndRow();
    }

    private static void promise19Beyond() {
        TwoPens x = Due.withWays();
        Due.school(x, "want 10;look 1;sees 20 w=0");
        x.write(0, 3);
        Due.is("better by one", x.mend(2), 0);
        x.looks(5);
        Due.is("beyond the sheet", x.mend(2), -5);
        x.looks(0);
        Due.is("another one beyond", x.mend(2), -5);
    }

    private static void promise19CountAndRow() {
        TwoPens x = Due.withWays();
        Due.school(x, "want 3;look 2;count 1;sees 20 w=0");
        x.write(0, 2);
        x.write(-1, 1);
        Due.is("enough by it", x.mend(0), 2);
        x.tear();
        x.write(0, 1);
        x.write(-1, 2);
        Due.is("still too few", x.mend(2), -5);
        TwoPens y = Due.withWays();
        Due.school(y, "want 9;sees 20 p=1;sees 10 w=1");
        y.write(0, 4);
        y.looks(3);
        y.looks(2);
        Due.is("the line behind changes, too", y.mend(2), 2);
        Due.is("by way 1 alike", y.mend(1), 2);
    }

    private static void where(TwoPens x, int... due) {
        for (int k = 0; k < 7; k++) {
            Due.is("where(" + k + ")", x.where(k), k < due.length ? due[k] : NONE);
        }
        Due.is("where(-1)", x.where(-1), NONE);
    }

    private static void promise20() {
        Due.promise("promise 20");
        where(new TwoPens(), 0, 1, 2);
        TwoPens x = Due.withWays();
        x.write(0, 2);
        x.write(1, 2);
        x.write(2, 2);
        x.write(-1, 1);
        x.write(1, 1);
        Due.school(x, "want 8;look 5;sees 20 w=0;sees 50 w=1");
        where(x, 6, 2, 3, 7, 0);
        Due.school(x, "want 9;look 4;sees 20 w=0;sees 50 w=1");
        where(x, 6, 8, 2, 3);
        Due.school(x, "want 6;look 5;sees 20 w=0");
        where(x, 0, 1, 2, 3, 4);
        Due.school(x, "want 3;look 5;sees 20 m=1;sees 30 m=2");
        where(x, 2, 1, 0);
        x.looks(30);
        Due.school(x, "want 1;look 5");
        where(x, 0);
    }

    private static void promise21() {
        Due.promise("promise 21");
        TwoPens x = Due.withWays();
        Due.is("nothing", x.left(), 0);
        x.write(0, 8);
        x.write(-1, 2);
        x.write(1, 5);
        Due.is("the last one is beyond", x.left(), 11);
        Due.school(x, "want 15");
        Due.is("all three written", x.left(), 10);
        x.looks(30);
        Due.is("beyond the sheet", x.left(), 13);
        x.looks(8);
        Due.is("at a missing one", x.left(), 13);
        x.looks(14);
        Due.is("the last one", x.left(), 12);
        Due.school(x, "want 15;count 1");
        Due.is("he counts", x.left(), 0);
    }

    private static void longest(TwoPens x, int how, int where) {
        Due.is("how long", x.longest(0), how);
        Due.is("where", x.longest(1), where);
    }

    private static void promise22() {
        Due.promise("promise 22");
        TwoPens x = Due.withWays();
        longest(x, -5, -5);
        Due.is("what 2 without lines", x.longest(2), NONE);
        x.write(-1, 9);
        longest(x, -5, -5);
        x.write(0, 3);
        longest(x, 3, 9);
        x.write(1, 3);
        longest(x, 3, 9);
        x.write(1, 1);
        longest(x, 4, 12);
        x.write(-1, 1);
        x.write(1, 4);
        longest(x, 4, 12);
        x.write(2, 5);
        longest(x, 5, 21);
        Due.is("what 2", x.longest(2), NONE);
        Due.is("what -1", x.longest(-1), NONE);
    }
}
