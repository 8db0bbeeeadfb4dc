import java.lang.reflect.Modifier;

/** Which refusal comes first where there are several: 'Terms' part 3, and the constants. */
public final class RefusalsTest {
    private static final int NONE = -1, BAD = -2, STATE = -3, FULL = -4;
    private static final long NO = Long.MIN_VALUE;

    public static void main(String[] args) throws ReflectiveOperationException {
        constants();
        noneAheadOfBad();
        noneAheadOfState();
        noneAheadOfFull();
        badAheadOfState();
        badAheadOfFull();
        oneThingFull();
        noImage();
        noneOfTheKind();
        aheadOfNothing();
        noSuchNumber();
        farOff();
        Due.end("RefusalsTest");
    }

    private static void constants() throws ReflectiveOperationException {
        Due.sentence("public static final int NONE = -1, BAD = -2, STATE = -3, FULL = -4;");
        String[] names = {"NONE", "BAD", "STATE", "FULL"};
        for (int i = 0; i < names.length; i++) {
            Due.is(names[i], TwoPens.class.getField(names[i]).getInt(null), -1 - i);
            int how = TwoPens.class.getField(names[i]).getModifiers();
            Due.is(names[i] + " is a constant", Modifier.isStatic(how) && Modifier.isFinal(how) ? 1 : 0, 1);
        }
        Due.sentence("`NO = Long.MIN_VALUE`: There is no such number.");
        Due.is("NO", TwoPens.class.getField("NO").getLong(null), NO);
    }

    private static void noneAheadOfBad() {
        Due.sentence("REFUSALS, of several the first one told: NONE there is no such WAY, KIND, place, what, part, k, i; BAD a number is not as told; STATE as told; FULL. They change nothing.");
        Watch.refused("way(7, 10, 0)", x -> x.way(7, 10, 0), NONE);
        Watch.refused("way(-1, 0, 61)", x -> x.way(-1, 0, 61), NONE);
        Watch.refused("row(6, 0, 10)", x -> x.row(6, 0, 10), NONE);
        Watch.refused("row(0, 4, 10)", x -> x.row(0, 4, 10), NONE);
        Watch.refused("write(6, 0)", x -> x.write(6, 0), NONE);
        Watch.refused("write(-2, 41)", x -> x.write(-2, 41), NONE);
        Watch.refused("cost(6, 0, 0)", x -> x.cost(6, 0, 0), NONE);
        Watch.refused("cost(0, 0, 2)", x -> x.cost(0, 0, 2), NONE);
        Watch.refused("quick(0, 1000, 2)", x -> x.quick(0, 1000, 2), NONE);
        Watch.refused("change(41, -1, 4)", x -> x.change(41, -1, 4), NONE);
        Watch.refused("rests(6, 0, 100, 0)", x -> x.rests(6, 0, 100, 0), NONE);
        Watch.refused("rests(0, 41, -1, 2)", x -> x.rests(0, 41, -1, 2), NONE);
        Watch.refused("book(40, 6)", x -> x.book(40, 6), NONE);
    }

    private static void noneAheadOfState() {
        Due.sentence("REFUSALS, of several the first one told: NONE");
        Watch.refused("row(1, 4, 0)", x -> x.row(1, 4, 0), NONE);
        Watch.refused("row(1, -1, 0)", x -> x.row(1, -1, 0), NONE);
        Watch.refused("row(1, 0, 0)", x -> x.row(1, 0, 0), STATE);
    }

    private static void noneAheadOfFull() {
        Due.sentence("of several the first one told: NONE there is no such WAY, KIND, place, what, part, k, i;");
        Watch.unchanged("way(7, 0, 1) when full", Watch::full, x -> x.way(7, 0, 1), NONE);
        Watch.unchanged("way(7, 10, 0) when full", Watch::full, x -> x.way(7, 10, 0), NONE);
        Watch.unchanged("write(6, 1) when full", Watch::full, x -> x.write(6, 1), NONE);
        Watch.unchanged("write(-2, 1) when full", Watch::full, x -> x.write(-2, 1), NONE);
        Watch.unchanged("show(40) when full", Watch::full, x -> x.show(40), NONE);
        Watch.unchanged("show(-2) when full", Watch::full, x -> x.show(-2), NONE);
        Watch.unchanged("book(0, 6) when full", Watch::full, x -> x.book(0, 6), NONE);
        Watch.unchanged("book(40, -2) when full", Watch::full, x -> x.book(40, -2), NONE);
    }

    private static void badAheadOfState() {
        Due.sentence("BAD a number is not as told; STATE as told;");
        Watch.refused("row(1, 0, 10)", x -> x.row(1, 0, 10), BAD);
        Watch.refused("row(1, 3, -1)", x -> x.row(1, 3, -1), BAD);
    }

    private static void badAheadOfFull() {
        Due.sentence("BAD a number is not as told; STATE as told; FULL.");
        Watch.unchanged("feed(128) when full", Watch::full, x -> x.feed(128), BAD);
        Watch.unchanged("feed(-1) when full", Watch::full, x -> x.feed(-1), BAD);
        Watch.unchanged("way(0, 10, 1) when full", Watch::full, x -> x.way(0, 10, 1), BAD);
        Watch.unchanged("way(0, 0, 61) when full", Watch::full, x -> x.way(0, 0, 61), BAD);
        Watch.unchanged("write(0, 41) when full", Watch::full, x -> x.write(0, 41), BAD);
        Watch.unchanged("write(-1, 0) when full", Watch::full, x -> x.write(-1, 0), BAD);
        Watch.unchanged("looks(40) when full", Watch::full, x -> x.looks(40), BAD);
        Watch.unchanged("looks(0), told already, when full", Watch::full, x -> x.looks(0), BAD);
        Watch.unchanged("wanted(41) when full", Watch::full, x -> x.wanted(41), BAD);
        Watch.unchanged("book(40, 0) when full", Watch::full, x -> x.book(40, 0), BAD);
        Watch.unchanged("book(-2, -1) when full", Watch::full, x -> x.book(-2, -1), BAD);
    }

    /** What else is there has room then, so that a refused call could change it. */
    private static void oneThingFull() {
        Due.sentence("FULL. They change nothing.");
        Watch.unchanged("feed", Watch.someBut(98, x -> x.feed('w')), x -> x.feed('w'), FULL);
        Watch.unchanged("way", Watch.someBut(2, x -> x.way(2, 2, 2)), x -> x.way(2, 2, 2), FULL);
        Watch.unchanged("write", Watch.someBut(30, x -> x.write(1, 1)), x -> x.write(1, 1), FULL);
        Watch.unchanged("write to 41", Watch::some, x -> x.write(2, 31), FULL);
        Watch.unchanged("write -1", Watch.someBut(1, x -> x.write(-1, 30)), x -> x.write(-1, 1), FULL);
        Watch.unchanged("looks", Watch.someBut(3, x -> x.looks(30 + x.count(2))), x -> x.looks(39), FULL);
        Watch.unchanged("show", Watch.someBut(3, x -> x.show(0)), x -> x.show(1), FULL);
        Watch.unchanged("wanted", Watch.someBut(5, x -> x.wanted(0)), x -> x.wanted(1), FULL);
        Watch.unchanged("book", Watch.someBut(5, x -> x.book(0, 0)), x -> x.book(1, 1), FULL);
        Watch.Maker schools = Watch.someBut(1, x -> {
            x.school();
            for (int i = 0; i < 4; i++) Due.school(x, "look 4");
            return x.feed('w');
        });
        Watch.unchanged("school", schools, TwoPens::school, FULL);
        Watch.unchanged("feed behind five schools", schools, x -> x.feed(128), BAD);
    }

    private static void noImage() {
        Due.sentence("STATE as told; FULL. They change nothing.");
        Watch.unchanged("undo", Watch::withoutImage, TwoPens::undo, STATE);
        Watch.unchanged("undo of a new object", Watch::fresh, TwoPens::undo, STATE);
        Watch.unchanged("row of a TWIN", Watch::withoutImage, x -> x.row(1, 0, 5), STATE);
    }

    /** An answer for none is no refusal, but an asking call, and changes nothing, too. */
    private static void noneOfTheKind() {
        Due.sentence("All that follows is asked, as things are now, and changes nothing.");
        for (int what = 0; what < 2; what++) {
            int it = what;
            Watch.unchanged("quick, all too dear", Watch::dear, x -> x.quick(40, 39, it), -5);
            Watch.unchanged("change, all too dear", Watch::dear, x -> x.change(40, 39, it + 2), -5);
            Watch.unchanged("longest of missing ones", Watch.someBut(1, x -> {
                x.tear();
                x.write(-1, 5);
                return x.show(2);
            }), x -> x.longest(it), -5);
            Watch.unchanged("mean without days", Watch.someBut(1, x -> x.wanted(-1)), x -> x.mean(1, 1, it), NO);
        }
        Watch.unchanged("stock without days", Watch.someBut(1, x -> x.wanted(-1)), x -> x.stock(1, 1), -5);
        Watch.unchanged("looked, all so", Watch.someBut(1, x -> {
            x.book(-1, 0);
            x.book(2, 0);
            return x.book(5, -1);
        }), TwoPens::looked, -5);
        Watch.unchanged("looked without rows", Watch.someBut(1, x -> x.book(-1, 0)), TwoPens::looked, -5);
        Watch.unchanged("mend, none better", Watch.someBut(1, x -> x.looks(39)), x -> x.mend(2), -5);
        Watch.unchanged("as another kind", Watch::some, x -> x.as(2, 6), -6);
    }

    /** A refusal tells a wrong question: it comes ahead of a right one's -5. */
    private static void aheadOfNothing() {
        Due.sentence("BAD a number is not as told;");
        Watch.unchanged("stock(100, 0) without days", Watch::fresh, x -> x.stock(100, 0), BAD);
        Watch.unchanged("quick(41, 0, 0) without ways", Watch::fresh, x -> x.quick(41, 0, 0), BAD);
        Watch.unchanged("change(1, 1000, 0) without ways", Watch::fresh, x -> x.change(1, 1000, 0), BAD);
        Watch.unchanged("quick(1, 0, 2) without ways", Watch::fresh, x -> x.quick(1, 0, 2), NONE);
        Watch.unchanged("change(1, 0, 4) without ways", Watch::fresh, x -> x.change(1, 0, 4), NONE);
        Watch.unchanged("longest(2) without lines", Watch::fresh, x -> x.longest(2), NONE);
    }

    private static void noSuchNumber() {
        Due.sentence("`NO = Long.MIN_VALUE`");
        Watch.refused("safe(2)", x -> x.safe(2), NO);
        Watch.refused("again(-1)", x -> x.again(-1), NO);
        Watch.refused("twice(0, 2)", x -> x.twice(0, 2), NO);
        Watch.refused("mean(100, -1, 2)", x -> x.mean(100, -1, 2), NO);
        Watch.refused("table(100, -100, 100, -100, 2)", x -> x.table(100, -100, 100, -100, 2), NO);
        Watch.unchanged("mean without days", Watch::fresh, x -> x.mean(100, 0, 0), NO);
    }

    /** All wrong at once, as far off as numbers go. */
    private static void farOff() {
        Due.sentence("They change nothing.");
        for (int n : new int[] {Integer.MIN_VALUE, Integer.MAX_VALUE, Integer.MIN_VALUE + 10, -1000000, 1000000}) {
            Watch.refused("feed", x -> x.feed(n), BAD);
            Watch.refused("way", x -> x.way(n, n, n), NONE);
            Watch.refused("of", x -> x.of(n, n), NONE);
            Watch.refused("row", x -> x.row(n, n, n), NONE);
            Watch.refused("write", x -> x.write(n, n), NONE);
            Watch.refused("line", x -> x.line(n, n), NONE);
            Watch.refused("told", x -> x.told(n), NONE);
            Watch.refused("cost", x -> x.cost(n, n, n), NONE);
            Watch.refused("looks", x -> x.looks(n), BAD);
            Watch.refused("safe", x -> x.safe(n), NO);
            Watch.refused("again", x -> x.again(n), NO);
            Watch.refused("twice", x -> x.twice(n, n), NO);
            Watch.refused("quick", x -> x.quick(n, n, n), NONE);
            Watch.refused("change", x -> x.change(n, n, n), NONE);
            Watch.refused("rests", x -> x.rests(n, n, n, n), NONE);
            Watch.refused("mend", x -> x.mend(n), NONE);
            Watch.refused("where", x -> x.where(n), NONE);
            Watch.refused("longest", x -> x.longest(n), NONE);
            Watch.refused("show", x -> x.show(n), NONE);
            Watch.refused("wanted", x -> x.wanted(n), BAD);
            Watch.refused("stock", x -> x.stock(n, n), BAD);
            Watch.refused("mean", x -> x.mean(n, n, n), NO);
            Watch.refused("table", x -> x.table(n, n, n, n, n), NO);
            Watch.refused("book", x -> x.book(n, n), NONE);
            Watch.refused("trace", x -> x.trace(n), NONE);
            Watch.refused("as", x -> x.as(n, n), NONE);
            Watch.refused("count", x -> x.count(n), NONE);
        }
    }
}
