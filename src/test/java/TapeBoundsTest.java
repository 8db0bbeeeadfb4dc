/** The bounds of tapes and schools, sentence by sentence: 'Terms' part 1, promises 2 and 3. */
public final class TapeBoundsTest {
    private static final int BAD = -2, FULL = -4;
    private static final String WANTS9 = "want 1;want 1;want 1;want 1;want 1;want 1;want 1;want 1;want 1";

    public static void main(String[] args) {
        signs();
        hundredSigns();
        tenClauses();
        oneBlank();
        digits();
        grammar();
        tests();
        numbersOfTests();
        comparisons();
        fiveOpen();
        openTillItsEnd();
        firstByteThatCannotGoOn();
        endsTooEarly();
        tapeIsEmptyThen();
        tenLessTheFault();
        fiveSchools();
        fullAheadOfAll();
        withoutASchool();
        want();
        look();
        count();
        lastOfEach();
        Due.end("TapeBoundsTest");
    }

    private static void good(String text) {
        Due.is("school '" + text + "'", Due.school(new TwoPens(), text), 0);
    }

    private static void fault(String text, int place) {
        Due.is("school '" + text + "'", Due.school(new TwoPens(), text), -10 - place);
    }

    private static void signs() {
        Due.sentence("A sign (0 .. 127) comes behind THE TAPE's: how many it has. BAD; FULL.");
        TwoPens x = new TwoPens();
        Due.is("feed(0)", x.feed(0), 1);
        Due.is("feed(127)", x.feed(127), 2);
        for (int sign : new int[] {-1, 128, 255, 256 + 'w', Integer.MIN_VALUE, Integer.MAX_VALUE}) {
            Watch.refused("feed(" + sign + ")", y -> y.feed(sign), BAD);
        }
        TwoPens y = new TwoPens();
        for (int sign = 0; sign < 100; sign++) {
            Due.is("feed(" + sign + ")", y.feed(sign), sign + 1);
        }
    }

    private static void hundredSigns() {
        Due.sentence("THE TAPE (bytes, 100 at most)");
        String hundred = "sees 10 w=10" + "|w=0".repeat(20) + ";want 39";
        TwoPens x = new TwoPens();
        Due.feed(x, hundred.substring(0, 99));
        Due.is("the 100th", x.feed('9'), 100);
        Due.is("the 101st", x.feed(';'), FULL);
        Due.is("still 100", x.count(6), 100);
        Due.is("all are read", x.school(), 0);
        Due.is("the 100th, too", x.told(3), 39);
        String more = "sees 10 w=10" + "|w=0".repeat(19) + "|w=10" + ";want 39";
        TwoPens y = new TwoPens();
        Due.is("without the 101st", Due.school(y, more), 0);
        Due.is("a figure less", y.told(3), 3);
        for (int sign : new int[] {0, 'w', 127}) {
            Watch.unchanged("feed(" + sign + ") when full", Watch::full, z -> z.feed(sign), FULL);
        }
    }

    private static void tenClauses() {
        Due.sentence("CLAUSES, 10 at most, with ; between");
        good("want 7");
        TwoPens x = new TwoPens();
        Due.is("ten", Due.school(x, WANTS9 + ";want 7"), 0);
        Due.is("the tenth holds", x.told(3), 7);
        fault(WANTS9 + ";want 7;want 8", 69);
        fault(WANTS9 + ";want 7;", 69);
        fault(WANTS9 + ";", 63);
        fault(";want 7", 0);
        fault("want 7;", 7);
        fault("want 7;;want 8", 7);
        fault("want 7,want 8", 6);
        fault("want 7want 8", 6);
        TwoPens y = Due.withWays();
        y.write(0, 1);
        Due.is("ten of sees", Due.school(y, "sees 1 w=0" + ";sees 1 k=0".repeat(8)), 0);
        Due.is("nine count", y.line(0, 1), 9);
        good("sees 1 w=0;sees 1 w=0;sees 1 w=0;look 1;look 1;look 1;look 1;want 1;want 1;count 1");
        fault("sees 1 w=0;sees 1 w=0;sees 1 w=0;look 1;look 1;look 1;look 1;want 1;want 1;count 1;", 82);
    }

    private static void oneBlank() {
        Due.sentence("want n; look n; count n; sees n E (one blank ahead of each part behind the word;");
        for (String word : new String[] {"want", "look", "count"}) {
            int size = word.length();
            good(word + " 1");
            fault(word + "1", size);
            fault(word + "  1", size + 1);
            fault(" " + word + " 1", 0);
            fault(word + " 1 ", size + 2);
            fault(word + "\t1", size);
            fault(word + " ", size + 1);
            fault(word, size);
        }
        good("sees 1 w=0");
        fault("sees1 w=0", 4);
        fault("sees  1 w=0", 5);
        fault("sees 1w=0", 6);
        fault("sees 1  w=0", 7);
        fault("sees 1 w =0", 8);
        fault("sees 1 w= 0", 9);
        fault("sees 1 w=0 ", 10);
        fault("sees 1 ! w=0", 8);
        fault("sees 1 ( w=0)", 8);
        fault("sees 1 w=0 |w=0", 10);
        fault("want 1 ;look 1", 6);
        fault("want 1; look 1", 7);
    }

    private static void digits() {
        Due.sentence("n 1 or 2 digits, no 0 ahead of another");
        for (String word : new String[] {"want ", "look ", "count ", "sees "}) {
            int size = word.length();
            String behind = word.equals("sees ") ? " w=0" : "";
            for (int n = 0; n < 100; n++) {
                good(word + n + behind);
            }
            for (int n = 0; n < 10; n++) {
                fault(word + "0" + n + behind, size + 1);
            }
            fault(word + "100" + behind, size + 2);
            fault(word + "999" + behind, size + 2);
            fault(word + "000" + behind, size + 1);
            fault(word + behind, size);
            fault(word + "/" + behind, size);
            fault(word + ":" + behind, size);
            fault(word + "-1" + behind, size);
            fault(word + "1/" + behind, size + 1);
            fault(word + "1:" + behind, size + 1);
            fault(word + "10/" + behind, size + 2);
        }
    }

    private static void grammar() {
        Due.sentence("E: T, or T|E. T: F, or F&T. F: !F, (E), or a TEST");
        good("sees 1 w=0");
        good("sees 1 w=0|w=0");
        good("sees 1 w=0&w=0");
        good("sees 1 w=0&w=0|w=0&w=0|w=0");
        good("sees 1 !w=0");
        good("sees 1 (w=0)");
        good("sees 1 (w=0|w=0)&(w=0)|!(w=0)");
        fault("sees 1 |w=0", 7);
        fault("sees 1 &w=0", 7);
        fault("sees 1 )", 7);
        fault("sees 1 ;", 7);
        fault("sees 1 w=0|", 11);
        fault("sees 1 w=0&", 11);
        fault("sees 1 w=0||w=0", 11);
        fault("sees 1 w=0|&w=0", 11);
        fault("sees 1 w=0&|w=0", 11);
        fault("sees 1 w=0|)", 11);
        fault("sees 1 w=0)", 10);
        fault("sees 1 w=0!w=0", 10);
        fault("sees 1 w=0(w=0)", 10);
        fault("sees 1 ()", 8);
        fault("sees 1 (w=0", 11);
        fault("sees 1 (w=0;want 1", 11);
        fault("sees 1 (w=0))", 12);
        fault("sees 1 (w=0)w=0", 12);
        fault("sees 1 (w=0)!w=0", 12);
        fault("sees 1 (|w=0)", 8);
        fault("sees 1 !", 8);
        fault("sees 1 !)", 8);
        fault("sees 1 !|w=0", 8);
        fault("sees 1 !1", 8);
        fault("sees 1 0", 7);
        truth();
    }

    /** At place 0 a test m=0 holds and m=1 does not: 1 and 0 in these texts. */
    private static void truth() {
        String[] hold = {"1", "1|1", "1|0", "0|1", "1&1", "!0", "!!1", "1|0&0", "0&0|1", "0&1|1&1", "!0&1",
            "!(0&1)", "!(0|0)", "(1|1)&1", "!0|1", "0|0|1", "1&1&1", "!(1&0)&!0"};
        String[] fail = {"0", "0|0", "1&0", "0&1", "0&0", "!1", "!!0", "(1|0)&0", "0&(0|1)", "!1&1", "!1|0",
            "!(1|0)", "!(1&1)", "0|0|0", "1&1&0", "0&1&1", "!0&!1", "0&1|1&0"};
        for (String text : hold) holds(text, 7);
        for (String text : fail) holds(text, 0);
    }

    private static void holds(String text, int due) {
        TwoPens x = new TwoPens();
        x.way(0, 0, 1);
        x.write(0, 1);
        String tests = text.replace("1", "m=a").replace("0", "m=1").replace("a", "0");
        Due.is("'" + tests + "'", Due.school(x, "sees 7 " + tests), 0);
        Due.is("sign by '" + tests + "'", x.line(0, 1), due);
    }

    private static void tests() {
        Due.sentence("a TEST: w or k or v or l or m or p, one of < = >");
        for (char sign = 0; sign < 128; sign++) {
            if ("wkvlmp".indexOf(sign) >= 0) good("sees 1 " + sign + "=0");
            else fault("sees 1 " + sign + "=0", "!(".indexOf(sign) >= 0 ? 8 : 7);
            if ("<=>".indexOf(sign) >= 0) good("sees 1 w" + sign + "0");
            else fault("sees 1 w" + sign + "0", 8);
        }
        fault("sees 1 w", 8);
        fault("sees 1 w==0", 9);
        fault("sees 1 w<=0", 9);
        fault("sees 1 0=w", 7);
    }

    private static void numbersOfTests() {
        Due.sentence("one of < = >, a number likewise");
        for (int n = 0; n < 100; n++) {
            good("sees 1 v<" + n);
        }
        for (int n = 0; n < 10; n++) {
            fault("sees 1 v<0" + n, 10);
        }
        fault("sees 1 v<", 9);
        fault("sees 1 v<100", 11);
        fault("sees 1 v</", 9);
        fault("sees 1 v<:", 9);
        fault("sees 1 v<9:", 10);
        fault("sees 1 v<-1", 9);
    }

    /** At one below the number, at the number, at one above. */
    private static void comparisons() {
        Due.sentence("w the number of its WAY, k its KIND, v its v");
        int[] kinds = {6, 5, 0};
        int[] vs = {9, 0, 8};
        for (int place = 0; place < 3; place++) {
            compare(place, 'w', place);
            compare(place, 'k', kinds[place]);
            compare(place, 'v', vs[place]);
        }
    }

    private static void compare(int place, char letter, int value) {
        sign(place, "sees 1 " + letter + "=" + value + ";sees 2 " + letter + "<" + (value + 1)
            + ";sees 4 " + letter + "<" + value + ";sees 8 " + letter + ">" + value
            + ";sees 16 " + letter + "=" + (value + 1), 3);
        if (value > 0) {
            sign(place, "sees 1 " + letter + ">" + (value - 1) + ";sees 2 " + letter + "=" + (value - 1), 1);
        }
    }

    /** Lines by a TOLD way of v 9, a COPIED one of v 0, a LINE of v 8. */
    private static void sign(int place, String text, int due) {
        TwoPens x = new TwoPens();
        x.way(6, 9, 1);
        x.way(5, 0, 1);
        x.way(0, 8, 1);
        x.write(0, 1);
        x.write(1, 1);
        x.write(2, 1);
        Due.is("'" + text + "'", Due.school(x, text), 0);
        Due.is("sign by '" + text + "'", x.line(place, 1), due);
    }

    private static void fiveOpen() {
        Due.sentence("At most 5 of ! and ( are open");
        good("sees 1 !!!!!w=0");
        fault("sees 1 !!!!!!w=0", 12);
        fault("sees 1 !!!!!(w=0)", 12);
        good("sees 1 (((((w=0)))))");
        fault("sees 1 ((((((w=0))))))", 12);
        fault("sees 1 (((((!w=0)))))", 12);
        for (int kinds = 0; kinds < 32; kinds++) {
            StringBuilder ahead = new StringBuilder();
            int closing = 0;
            for (int i = 0; i < 5; i++) {
                boolean not = (kinds >> i & 1) == 1;
                ahead.append(not ? '!' : '(');
                closing += not ? 0 : 1;
            }
            good("sees 1 " + ahead + "w=0" + ")".repeat(closing));
            fault("sees 1 " + ahead + "!w=0" + ")".repeat(closing), 12);
            fault("sees 1 " + ahead + "(w=0" + ")".repeat(closing + 1), 12);
        }
    }

    private static void openTillItsEnd() {
        Due.sentence("(a ( till its ) , a ! till its F ends)");
        good("sees 1 !!!!!w=0&!!!!!w=0|!!!!!w=0");
        good("sees 1 (((((w=0)))))&(((((w=0)))))|!!!!!w=0");
        good("sees 1 ((((!w=0&!w=0|!w=0))))");
        good("sees 1 ((((!w=0&(w=0)|!w=0))))");
        fault("sees 1 ((((!w=0&!!w=0))))", 17);
        good("sees 1 (((!(w=0)&!(w=0))))");
        good("sees 1 (((!(w=0)&!!w=0)))");
        fault("sees 1 (((!(w=0)&!!!w=0)))", 19);
        good("sees 1 !(w=0)&!!!!!w=0");
        good("sees 1 !(!(!w=0&!w=0)&!(!w=0))");
        good("sees 1 !(!(w=0)|!!!w=0)&(((((w=0)))))");
        fault("sees 1 !(!(w=0)|!!!!w=0)", 19);
        fault("sees 1 !(!(!(w=0)))", 12);
        good("sees 1 !!!!!w=0;sees 1 !!!!!w=0");
    }

    /** Every beginning of a text can go on; a byte 0 or 127 can stand nowhere. */
    private static void firstByteThatCannotGoOn() {
        Due.sentence("FAULT: the place of the first byte with which no SCHOOL can go on");
        for (String text : new String[] {"want 10", "look 0", "count 37", "sees 99 (w<1|!k=22)&v>3",
            "sees 0 l=0;want 8", "sees 5 !(m<9&p=1);count 1"}) {
            good(text);
            for (int i = 0; i <= text.length(); i++) {
                fault(text.substring(0, i) + (char) 127 + text.substring(i), i);
                fault(text.substring(0, i) + (char) 0 + "x", i);
            }
        }
        fault("w" + "x".repeat(99), 1);
        fault("x" + "w".repeat(99), 0);
        fault("Want 1", 0);
        fault("wAnt 1", 1);
        for (char sign = 0; sign < 128; sign++) {
            if ("wlcs".indexOf(sign) < 0) fault(sign + "ant 1", 0);
        }
    }

    private static void endsTooEarly() {
        Due.sentence("(the size, if it ends too early)");
        fault("", 0);
        for (String text : new String[] {"want 1", "look 1", "count 1", "sees 1 w=0", "want 1;look 1",
            "sees 1 (w=0)", "sees 1 !w=0", "sees 1 w=0&w=0", "sees 1 w=0|w=0"}) {
            boolean[] ends = new boolean[text.length() + 1];
            ends[text.length()] = true;
            ends[Math.max(0, text.indexOf(';'))] = text.indexOf(';') > 0;
            int joint = Math.max(text.indexOf('&'), text.indexOf('|'));
            ends[Math.max(0, joint)] = joint > 0;
            for (int i = 0; i <= text.length(); i++) {
                if (ends[i]) good(text.substring(0, i));
                else fault(text.substring(0, i), i);
            }
        }
        String signs99 = "sees 10 w=1" + "|w=1".repeat(22);
        Due.is("so long is the text", signs99.length(), 99);
        good(signs99);
        good(signs99 + "0");
        fault(signs99 + "&", 100);
        fault(signs99 + ";", 100);
    }

    private static void tapeIsEmptyThen() {
        Due.sentence("THE TAPE, which is empty then (by a FAULT, too), is a SCHOOL, and holds: its number;");
        TwoPens x = new TwoPens();
        Due.is("a school", Due.school(x, "want 8"), 0);
        Due.is("empty", x.count(6), 0);
        Due.is("it holds", x.told(3), 8);
        Due.is("a fault", Due.school(x, "want 9x"), -16);
        Due.is("empty by a fault", x.count(6), 0);
        Due.is("first sign anew", x.feed('w'), 1);
        Due.is("read from the first", Due.school(x, "ant 7"), 1);
        Due.is("it holds", x.told(3), 7);
        TwoPens full = new TwoPens();
        Due.feed(full, "w".repeat(100));
        Due.is("a fault of 100 signs", full.school(), -11);
        Due.is("empty", full.count(6), 0);
        Due.is("room anew", full.feed('w'), 1);
    }

    private static void tenLessTheFault() {
        Due.sentence("-10 less the FAULT (the one that held holds).");
        Due.is("the least", new TwoPens().school(), -10);
        Due.is("the greatest", Due.school(new TwoPens(), "sees 10 w=1" + "|w=1".repeat(22) + "|"), -110);
        TwoPens x = new TwoPens();
        Due.school(x, "want 8;look 2;count 3;sees 50 w=1");
        x.way(0, 1, 1);
        x.way(0, 1, 1);
        x.write(1, 1);
        Due.is("a fault at the end", Due.school(x, "want 9;look 4;count 5;sees 60 w=1;"), -44);
        Due.is("WANT", x.told(3), 8);
        Due.is("LOOK", x.told(4), 2);
        Due.is("count", x.told(5), 3);
        Due.is("sign", x.line(0, 1), 50);
        Due.is("schools", x.count(1), 1);
        Due.is("the next one's number", Due.school(x, "want 9"), 1);
        TwoPens none = new TwoPens();
        Due.is("a fault of the first", Due.school(none, "want 9;look 4;count 5;"), -32);
        Due.is("WANT without", none.told(3), 20);
        Due.is("LOOK without", none.told(4), 3);
        Due.is("count without", none.told(5), 0);
        Watch.unchanged("a fault's school, then the same signs", Watch::some, y -> {
            int fault = y.school();
            Due.feed(y, "wa");
            return fault;
        }, -12);
    }

    private static void fiveSchools() {
        Due.sentence("SCHOOLS are numbered from 0 on, 5 at most; the newest one holds");
        TwoPens x = new TwoPens();
        for (int i = 0; i < 5; i++) {
            Due.is("school " + i, Due.school(x, "want " + (9 - i)), i);
            Due.is("it holds", x.told(3), 9 - i);
            Due.is("schools", x.count(1), i + 1);
        }
        Due.is("a sixth", Due.school(x, "want 1"), FULL);
        Due.is("the fifth holds", x.told(3), 5);
        Due.is("schools", x.count(1), 5);
        TwoPens faults = new TwoPens();
        for (int i = 0; i < 9; i++) {
            Due.is("a fault is none", Due.school(faults, "w"), -11);
        }
        for (int i = 0; i < 4; i++) Due.school(faults, "look 1");
        Due.is("a fault as the fifth", Due.school(faults, "want x"), -15);
        Due.is("the fifth", Due.school(faults, "want 2"), 4);
        Due.is("the sixth", faults.school(), FULL);
    }

    private static void fullAheadOfAll() {
        Due.sentence("FULL (ahead of all; THE TAPE stays).");
        Watch.unchanged("school when full", Watch::full, TwoPens::school, FULL);
        for (String text : new String[] {"", "want 3", "want x"}) {
            TwoPens x = new TwoPens();
            for (int i = 0; i < 4; i++) Due.school(x, "look 1");
            x.image();
            Due.school(x, "look 2");
            Due.feed(x, text);
            Due.is("'" + text + "'", x.school(), FULL);
            Due.is("once more '" + text + "'", x.school(), FULL);
            Due.is("tape stays", x.count(6), text.length());
            Due.is("LOOK", x.told(4), 2);
            Due.is("WANT", x.told(3), 20);
            x.undo();
            Due.is("room by undo", Due.school(x, "look 3"), 4);
        }
    }

    private static void withoutASchool() {
        Due.sentence("without one there are no CLAUSES");
        TwoPens x = Due.withWays();
        x.write(0, 20);
        Due.is("WANT", x.told(3), 20);
        Due.is("LOOK", x.told(4), 3);
        Due.is("count", x.told(5), 0);
        for (int i = 0; i < 20; i++) {
            Due.is("sign " + i, x.line(i, 1), 0);
        }
        Due.is("SAFE", x.safe(0), 1);
        Due.school(x, "sees 40 w=0;want 9");
        x.image();
        Due.school(x, "sees 20 w=0");
        Due.is("an older one's clauses are none", x.line(0, 1), 20);
        Due.is("its WANT", x.told(3), 20);
        x.undo();
        Due.is("undone", x.line(0, 1), 40);
    }

    private static void want() {
        Due.sentence("WANT (20 without; 1 if less, 40 if more)");
        Due.is("without", new TwoPens().told(3), 20);
        int[][] due = {{0, 1}, {1, 1}, {2, 2}, {20, 20}, {39, 39}, {40, 40}, {41, 40}, {99, 40}};
        for (int[] row : due) {
            TwoPens x = new TwoPens();
            Due.is("want " + row[0], Due.school(x, "want " + row[0]), 0);
            Due.is("WANT by " + row[0], x.told(3), row[1]);
            Due.is("LOOK stays", x.told(4), 3);
        }
        TwoPens y = new TwoPens();
        Due.school(y, "look 1");
        Due.is("a school without", y.told(3), 20);
    }

    private static void look() {
        Due.sentence("LOOK (3 without; 1 if less, 5 if more)");
        Due.is("without", new TwoPens().told(4), 3);
        int[][] due = {{0, 1}, {1, 1}, {2, 2}, {4, 4}, {5, 5}, {6, 5}, {99, 5}};
        for (int[] row : due) {
            TwoPens x = new TwoPens();
            Due.is("look " + row[0], Due.school(x, "look " + row[0]), 0);
            Due.is("LOOK by " + row[0], x.told(4), row[1]);
            Due.is("WANT stays", x.told(3), 20);
        }
        TwoPens y = new TwoPens();
        Due.school(y, "want 1");
        Due.is("a school without", y.told(4), 3);
    }

    private static void count() {
        Due.sentence("the n of count (0 without: he does not count)");
        Due.is("without", new TwoPens().told(5), 0);
        for (int n : new int[] {0, 1, 2, 98, 99}) {
            TwoPens x = new TwoPens();
            x.way(0, 0, 1);
            x.write(0, 1);
            Due.is("count " + n, Due.school(x, "want 2;look 1;count " + n), 0);
            Due.is("count", x.told(5), n);
            Due.is("SAFE with too few", x.safe(0), n == 0 ? 1 : 0);
            x.write(0, 1);
            Due.is("SAFE with enough", x.safe(0), 1);
        }
        TwoPens y = new TwoPens();
        y.way(0, 0, 1);
        y.write(0, 1);
        Due.school(y, "look 1");
        Due.is("a school without does not count", y.safe(0), 1);
    }

    private static void lastOfEach() {
        Due.sentence("the last n of each");
        TwoPens x = new TwoPens();
        Due.school(x, "want 40;look 5;count 9;want 0;look 0;count 0");
        Due.is("WANT", x.told(3), 1);
        Due.is("LOOK", x.told(4), 1);
        Due.is("count", x.told(5), 0);
        Due.school(x, "count 0;look 0;want 0;count 99;look 99;want 99");
        Due.is("WANT", x.told(3), 40);
        Due.is("LOOK", x.told(4), 5);
        Due.is("count", x.told(5), 99);
        Due.school(x, "want 7;want 8");
        Due.is("WANT", x.told(3), 8);
        Due.is("LOOK is none of the former's", x.told(4), 3);
        Due.is("count is none of the former's", x.told(5), 0);
    }
}
