/** Promises 13 to 15: what is seen. */
public final class SeenTest {
    private static final long NO = Long.MIN_VALUE;

    public static void main(String[] args) {
        promise13();
        promise14();
        promise15();
        Due.end("SeenTest");
    }

    /** Signs of 20 by way 0, of 50 by way 1, of 0 by way 2, as the text tells. */
    private static TwoPens sheet(String text) {
        TwoPens x = Due.withWays();
        Due.school(x, text + ";sees 20 w=0;sees 50 w=1");
        x.write(0, 5);
        x.write(1, 5);
        x.write(2, 10);
        return x;
    }

    private static void fraction(String call, long above, long below, long dueAbove, long dueBelow) {
        Due.is(call + " above", above, dueAbove);
        Due.is(call + " below", below, dueBelow);
    }

    private static void safe(TwoPens x, String call, long above, long below) {
        fraction(call, x.safe(0), x.safe(1), above, below);
    }

    private static void again(TwoPens x, String call, long above, long below) {
        fraction(call, x.again(0), x.again(1), above, below);
    }

    private static void twice(TwoPens x, int look, long above, long below) {
        fraction("twice(" + look + ")", x.twice(look, 0), x.twice(look, 1), above, below);
    }

    private static void promise13() {
        Due.promise("promise 13");
        TwoPens x = sheet("want 10;look 2");
        safe(x, "0 and 9", 2, 5);
        x = sheet("want 10;look 3");
        safe(x, "0, 9 and 5", 1, 5);
        x = sheet("want 20;look 1");
        safe(x, "0", 4, 5);
        x = sheet("want 21;look 2");
        safe(x, "a place beyond", 0, 1);
        x = sheet("want 20;look 3");
        x.looks(11);
        safe(x, "no sign", 1, 1);
        x.looks(0);
        x.looks(5);
        x.looks(1);
        x.looks(6);
        safe(x, "by hand", 4, 25);
        x.looks(-1);
        x.looks(39);
        safe(x, "beyond the sheet", 0, 1);
        x = sheet("want 20;look 1;count 1");
        safe(x, "counted", 4, 5);
        x.tear();
        x.write(0, 19);
        x.write(-1, 1);
        safe(x, "one too few", 0, 1);
        x.write(0, 1);
        safe(x, "enough", 4, 5);
        x = sheet("want 40;look 1;count 0");
        safe(x, "not counted", 4, 5);
        Due.is("part 2", x.safe(2), NO);
        Due.is("part -1", x.safe(-1), NO);
    }

    private static void promise14() {
        Due.promise("promise 14");
        again(new TwoPens(), "nothing written", 40, 1);
        again(sheet("want 10;look 2"), "0 and 9", 16, 1);
        again(sheet("want 20;look 1"), "0", 24, 1);
        again(sheet("want 7;look 3"), "0, 6 and 3", 294, 25);
        TwoPens x = sheet("want 20");
        x.looks(11);
        again(x, "no sign", 20, 1);
        again(sheet("want 40;look 1;count 2"), "too few", 80, 1);
        Due.is("part 2", x.again(2), NO);
        Due.is("part -1", x.again(-1), NO);
    }

    private static void promise15() {
        Due.promise("promise 15");
        TwoPens x = sheet("want 10;look 1");
        twice(x, 1, 2, 5);
        twice(x, 2, 1, 5);
        twice(x, 3, 1, 10);
        twice(x, 4, 1, 20);
        x = sheet("want 7;look 1");
        twice(x, 4, 16, 125);
        x = sheet("want 2;look 1");
        twice(x, 4, 64, 125);
        twice(x, 2, 64, 125);
        twice(x, 1, 16, 25);
        x = sheet("want 22;look 1");
        twice(x, 2, 0, 1);
        x = sheet("want 40;look 1;count 1");
        x.looks(11);
        twice(x, 1, 0, 1);
        x = Due.withWays();
        Due.school(x, "want 40;sees 1 w=0");
        x.write(0, 40);
        x.looks(36);
        x.looks(37);
        x.looks(38);
        x.looks(39);
        x.looks(0);
        twice(x, 4, 913517247483640899L, 1000000000000000000L);
        Due.is("look 0", x.twice(0, 0), NO);
        Due.is("look 5", x.twice(5, 0), NO);
        Due.is("part 2", x.twice(1, 2), NO);
        Due.is("part -1", x.twice(1, -1), NO);
    }
}
