/** Long runs of mixed calls, valid and wrong, on the class and on the model; the runs are always the same. */
public final class ModelTest {
    private static final int RUNS = 400;
    private static final int CALLS = 512;

    private long seed = 20261118L;
    private TwoPens x;
    private Model m;

    public static void main(String[] args) {
        Due.promise("against the model");
        ModelTest test = new ModelTest();
        for (int run = 0; run < RUNS; run++) test.run();
        for (int i = 0; i < 3000; i++) test.compareText(i);
        Due.end("ModelTest");
    }

    private int below(int bound) {
        seed = seed * 6364136223846793005L + 1442695040888963407L;
        return (int) ((seed >>> 33) % bound);
    }

    /** Mostly from least to most, now and then just beyond or far off. */
    private int near(int least, int most) {
        int turn = below(24);
        if (turn == 0) return least - 1;
        if (turn == 1) return most + 1;
        if (turn == 2 && below(4) == 0) return below(2) == 0 ? Integer.MIN_VALUE : Integer.MAX_VALUE;
        return least + below(most - least + 1);
    }

    private void run() {
        x = new TwoPens();
        m = new Model();
        int calls = 0;
        while (calls < CALLS) calls += step(CALLS - calls);
    }

    private int step(int most) {
        if (below(60) == 0) return feedText(most);
        change();
        if (most > 1) ask();
        return 2;
    }

    private int feedText(int most) {
        String text = text();
        if (text.length() + 1 > most) return ask();
        for (int i = 0; i < text.length(); i++) {
            Due.is("feed", x.feed(text.charAt(i)), m.feed(text.charAt(i)));
        }
        Due.is("school of '" + text + "'", x.school(), m.school());
        return text.length() + 1;
    }

    private void compareText(int i) {
        TwoPens fresh = new TwoPens();
        String text = text();
        Due.feed(fresh, text);
        String fed = text.substring(0, Math.min(100, text.length()));
        int fault = Model.fault(fed);
        Due.is("text " + i + " '" + fed + "'", fresh.school(), fault < 0 ? 0 : -10 - fault);
    }

    private String text() {
        StringBuilder text = new StringBuilder();
        int clauses = 1 + below(below(6) == 0 ? 11 : 4);
        for (int i = 0; i < clauses; i++) {
            if (i > 0) text.append(';');
            int turn = below(7);
            if (turn == 0) text.append("want ").append(below(45));
            else if (turn == 1) text.append("look ").append(below(7));
            else if (turn == 2) text.append("count ").append(below(3));
            else text.append("sees ").append(below(2) == 0 ? below(100) : below(20)).append(' ').append(either(0));
        }
        if (below(4) == 0) spoil(text);
        return text.toString();
    }

    private void spoil(StringBuilder text) {
        String signs = "wkvlmp<=>!()&|;0123456789 antlookcuse\n";
        for (int i = 0; i <= below(2); i++) {
            int at = below(text.length());
            char sign = signs.charAt(below(signs.length()));
            int turn = below(4);
            if (turn == 0) text.setCharAt(at, sign);
            else if (turn == 1) text.insert(at, sign);
            else if (turn == 2) text.deleteCharAt(at);
            else text.setLength(at);
            if (text.length() == 0) text.append('w');
        }
    }

    private String either(int open) {
        return both(open) + (below(4) == 0 ? "|" + either(open) : "");
    }

    private String both(int open) {
        return single(open) + (below(4) == 0 ? "&" + both(open) : "");
    }

    private String single(int open) {
        int turn = below(10);
        if (turn < 2 && open < 6) return "!" + single(open + 1);
        if (turn < 4 && open < 6) return "(" + either(open + 1) + ")";
        return "" + "wkvlmp".charAt(below(6)) + "<=>".charAt(below(3)) + below(below(9) == 0 ? 100 : 8);
    }

    private void change() {
        int a = near(0, 5), b = near(0, 39), c = near(0, 9);
        switch (below(16)) {
            case 0: case 1: both("way", x.way(a + 1, c, b + 1), m.way(a + 1, c, b + 1)); break;
            case 2: both("row", x.row(a, c & 7, c), m.row(a, c & 7, c)); break;
            case 3: case 4: case 5: case 6:
                int n = 1 + below(9);
                both("write", x.write(a - 1, n), m.write(a - 1, n));
                break;
            case 7: both("write", x.write(a, b), m.write(a, b)); break;
            case 8: if (below(4) == 0) both("tear", x.tear(), m.tear()); break;
            case 9: both("looks", x.looks(b - 1), m.looks(b - 1)); break;
            case 10: both("show", x.show(b - 1), m.show(b - 1)); break;
            case 11: both("wanted", x.wanted(b), m.wanted(b)); break;
            case 12: both("book", x.book(b, a - 1), m.book(b, a - 1)); break;
            case 13: if (below(3) == 0) both("looks", x.looks(-1), m.looks(-1)); break;
            case 14: if (below(3) == 0) both("image", x.image(), m.image()); break;
            default: if (below(3) == 0) both("undo", x.undo(), m.undo()); break;
        }
    }

    private int ask() {
        int turn = below(26);
        if (turn < 8) askSheet(turn);
        else if (turn < 16) askWriting(turn);
        else askTables(turn);
        return 1;
    }

    private void both(String call, long got, long want) {
        Due.is(call, got, want);
    }

    private void askSheet(int turn) {
        int a = near(0, 5), b = near(0, 39), what = near(0, 1);
        switch (turn) {
            case 0: both("of", x.of(a, near4(b)), m.of(a, near4(b))); break;
            case 1: both("line", x.line(b, what), m.line(b, what)); break;
            case 2: both("told", x.told(b & 15), m.told(b & 15)); break;
            case 3: both("cost", x.cost(a, b, what), m.cost(a, b, what)); break;
            case 4: both("safe", x.safe(what), m.safe(what)); break;
            case 5: both("again", x.again(what), m.again(what)); break;
            case 6: both("twice", x.twice(near4(b) + 1, what), m.twice(near4(b) + 1, what)); break;
            default: both("count", x.count(b & 7), m.count(b & 7)); break;
        }
    }

    private static int near4(int n) {
        return Math.floorMod(n, 5);
    }

    private void askWriting(int turn) {
        int a = near(0, 5), b = near(1, 40), r = near(0, 99), what = near(0, 1);
        switch (turn) {
            case 8: both("quick", x.quick(b, r, what), m.quick(b, r, what)); break;
            case 9: both("change", x.change(b, r, r & 3), m.change(b, r, r & 3)); break;
            case 10: both("change", x.change(b, r, 4), m.change(b, r, 4)); break;
            case 11: both("rests", x.rests(a, b, r & 31, what), m.rests(a, b, r & 31, what)); break;
            case 12: both("mend", x.mend(a), m.mend(a)); break;
            case 13: both("where", x.where(a), m.where(a)); break;
            case 14: both("left", x.left(), m.left()); break;
            default: both("longest", x.longest(what), m.longest(what)); break;
        }
    }

    private void askTables(int turn) {
        int a = near(0, 5), r = near(0, 99), s = near(0, 99), what = near(0, 1);
        int c = near(-99, 99), d = near(-9, 9), e = near(-9, 9);
        switch (turn) {
            case 16: both("whose", x.whose(), m.whose()); break;
            case 17: both("stock", x.stock(r, s), m.stock(r, s)); break;
            case 18: both("mean", x.mean(r, s, what), m.mean(r, s, what)); break;
            case 19: both("table", x.table(c, d, e, r, what), m.table(c, d, e, r, what)); break;
            case 20: both("table", x.table(d, e, a, -a, what), m.table(d, e, a, -a, what)); break;
            case 21: both("looked", x.looked(), m.looked()); break;
            case 22: both("act", x.act(a, r & 3, c), m.act(a, r & 3, c)); break;
            case 23: both("trace", x.trace(s & 7), m.trace(s & 7)); break;
            case 24: both("as", x.as(a, s & 7), m.as(a, s & 7)); break;
            default: both("count", x.count(s & 15), m.count(s & 15)); break;
        }
    }
}
