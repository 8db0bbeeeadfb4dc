import java.math.BigInteger;
import java.util.ArrayList;
import java.util.Arrays;
import java.util.HashMap;
import java.util.LinkedHashSet;
import java.util.List;
import java.util.Map;
import java.util.Set;
import java.util.regex.Pattern;

/**
 * What the document says, once more, slowly and by other means: texts are taken apart by splitting,
 * a fault is found by trying to complete each beginning, costs are added up line by line, and
 * fractions are BigIntegers. ModelTest compares the class with it.
 */
final class Model {
    private static final int NONE = -1, BAD = -2, STATE = -3, FULL = -4;
    private static final long NO = Long.MIN_VALUE;
    private static final int[] ABOVE = {-1, 0, 0, 0, 1, 2, 3};

    private static final class All {
        List<int[]> ways = new ArrayList<>();
        List<Integer> sheet = new ArrayList<>();
        int spent, paid, schools;
        String holding = "", tape = "";
        List<Integer> places = new ArrayList<>(), shown = new ArrayList<>(), days = new ArrayList<>();
        List<int[]> book = new ArrayList<>();

        All copy() {
            All a = new All();
            for (int[] way : ways) a.ways.add(way.clone());
            a.sheet.addAll(sheet);
            a.spent = spent;
            a.paid = paid;
            a.schools = schools;
            a.holding = holding;
            a.tape = tape;
            a.places.addAll(places);
            a.shown.addAll(shown);
            a.days.addAll(days);
            a.book.addAll(book);
            return a;
        }
    }

    private All all = new All();
    private All image = null;
    private List<Integer> trace = new ArrayList<>();

    // ---- texts

    private static final Pattern SETTING = Pattern.compile("(want|look|count) (0|[1-9][0-9]?)");
    private static final Pattern SEES = Pattern.compile("sees (0|[1-9][0-9]?) .*", Pattern.DOTALL);
    private static final Pattern TEST = Pattern.compile("[wkvlmp][<=>](0|[1-9][0-9]?)");
    private static final Set<String> ENDS = ends();
    private static final Map<String, Boolean> EXPRESSIONS = new HashMap<>();

    private static Set<String> ends() {
        Set<String> ends = new LinkedHashSet<>();
        for (String whole : new String[] {"want 1", "look 1", "count 1", "sees 1 w=1"}) {
            for (int i = 0; i <= whole.length(); i++) {
                for (int j = 0; j < 6; j++) ends.add(whole.substring(i) + ")".repeat(j));
            }
        }
        return ends;
    }

    static boolean isSchool(String text) {
        String[] clauses = text.split(";", -1);
        if (clauses.length > 10) return false;
        for (String clause : clauses) {
            if (SETTING.matcher(clause).matches()) continue;
            if (!SEES.matcher(clause).matches()) return false;
            if (!isE(expression(clause), 0)) return false;
        }
        return true;
    }

    private static String expression(String clause) {
        return clause.substring(clause.indexOf(' ', 5) + 1);
    }

    private static boolean isE(String s, int open) {
        String key = open + s;
        Boolean known = EXPRESSIONS.get(key);
        if (known != null) return known;
        boolean is = isT(s, open);
        for (int i = 0; i < s.length() && !is; i++) {
            is = s.charAt(i) == '|' && isT(s.substring(0, i), open) && isE(s.substring(i + 1), open);
        }
        EXPRESSIONS.put(key, is);
        return is;
    }

    private static boolean isT(String s, int open) {
        if (isF(s, open)) return true;
        for (int i = 0; i < s.length(); i++) {
            if (s.charAt(i) == '&' && isF(s.substring(0, i), open) && isT(s.substring(i + 1), open)) return true;
        }
        return false;
    }

    private static boolean isF(String s, int open) {
        if (TEST.matcher(s).matches()) return true;
        if (open == 5) return false;
        if (s.startsWith("!")) return isF(s.substring(1), open + 1);
        return s.startsWith("(") && s.endsWith(")") && s.length() > 2
            && isE(s.substring(1, s.length() - 1), open + 1);
    }

    static int fault(String text) {
        if (isSchool(text)) return -1;
        int good = 0, bad = text.length() + 1;
        while (bad - good > 1) {
            int middle = (good + bad) / 2;
            if (canGoOn(text.substring(0, middle))) good = middle;
            else bad = middle;
        }
        return good;
    }

    private static boolean canGoOn(String beginning) {
        for (String end : ENDS) if (isSchool(beginning + end)) return true;
        return false;
    }

    private boolean holdsE(String s, int place, int by, int ahead) {
        if (isT(s, 0)) return holdsT(s, place, by, ahead);
        for (int i = 0; i < s.length(); i++) {
            if (s.charAt(i) == '|' && isT(s.substring(0, i), 0) && isE(s.substring(i + 1), 0)) {
                return holdsT(s.substring(0, i), place, by, ahead) | holdsE(s.substring(i + 1), place, by, ahead);
            }
        }
        throw new IllegalStateException(s);
    }

    private boolean holdsT(String s, int place, int by, int ahead) {
        if (isF(s, 0)) return holdsF(s, place, by, ahead);
        for (int i = 0; i < s.length(); i++) {
            if (s.charAt(i) == '&' && isF(s.substring(0, i), 0) && isT(s.substring(i + 1), 0)) {
                return holdsF(s.substring(0, i), place, by, ahead) & holdsT(s.substring(i + 1), place, by, ahead);
            }
        }
        throw new IllegalStateException(s);
    }

    private boolean holdsF(String s, int place, int by, int ahead) {
        if (s.startsWith("!")) return !holdsF(s.substring(1), place, by, ahead);
        if (s.startsWith("(")) return holdsE(s.substring(1, s.length() - 1), place, by, ahead);
        Map<Character, Integer> values = Map.of('w', by, 'k', all.ways.get(by)[0], 'v', all.ways.get(by)[1],
            'l', place / 10, 'm', place % 10, 'p', place > 0 && ahead == by ? 1 : 0);
        int value = values.get(s.charAt(0));
        int n = Integer.parseInt(s.substring(2));
        return s.charAt(1) == '<' ? value < n : s.charAt(1) == '=' ? value == n : value > n;
    }

    private int last(String word, int without) {
        int n = without;
        for (String clause : all.holding.split(";")) {
            if (clause.startsWith(word + " ")) n = Integer.parseInt(clause.substring(word.length() + 1));
        }
        return n;
    }

    private int want() {
        return Math.max(1, Math.min(40, last("want", 20)));
    }

    private int look() {
        return Math.max(1, Math.min(5, last("look", 3)));
    }

    private int counts() {
        return last("count", 0);
    }

    // ---- sheets

    private static int at(List<Integer> sheet, int place) {
        return place >= 0 && place < sheet.size() ? sheet.get(place) : -1;
    }

    private int sign(List<Integer> sheet, int place) {
        int by = at(sheet, place);
        if (by < 0) return 100;
        int sum = 0;
        for (String clause : all.holding.split(";")) {
            if (clause.startsWith("sees ") && holdsE(expression(clause), place, by, at(sheet, place - 1))) {
                sum += Integer.parseInt(clause.split(" ")[1]);
            }
        }
        return Math.min(100, sum);
    }

    private List<Integer> places() {
        if (!all.places.isEmpty()) return all.places;
        List<Integer> places = new ArrayList<>();
        int[] order = {0, want() - 1, want() / 2};
        for (int i = 0; i < 3 && i < look(); i++) {
            if (!places.contains(order[i])) places.add(order[i]);
        }
        return places;
    }

    private int seconds(int way, int n) {
        if (n == 0) return 0;
        int[] w = all.ways.get(way);
        return seconds(w[0], w, n);
    }

    private static int seconds(int kind, int[] w, int n) {
        int v = w[1], slow = w[2], sum = 0;
        switch (kind) {
            case 0:
                for (int j = 0; j < n; j++) sum += slow + j / 10 * v;
                return sum;
            case 1:
                for (; n >= 2; n -= 2) sum += slow + v;
                return sum + (n == 1 ? slow : 0);
            case 2:
                for (int j = 0; j < n; j++) sum += slow / 2;
                return sum + v;
            case 3:
                return 0;
            case 4:
                for (; n >= 3; n -= 3) sum += slow + v + v;
                return sum + seconds(1, w, n);
            case 5:
                return seconds(2, w, n - n / 2) + n / 2;
            default:
                return w[3 + n % 4];
        }
    }

    private int pence(int way, int n) {
        return n > 0 && (all.ways.get(way)[0] == 3 || all.ways.get(way)[0] == 6) ? n * all.ways.get(way)[1] : 0;
    }

    private static BigInteger big(long n) {
        return BigInteger.valueOf(n);
    }

    private static long fraction(BigInteger above, BigInteger below, int part) {
        if (part < 0 || part > 1) return NO;
        if (below.signum() < 0) return fraction(above.negate(), below.negate(), part);
        return (part == 0 ? above : below).divide(above.gcd(below)).longValueExact();
    }

    private BigInteger unseen(List<Integer> sheet, List<Integer> where) {
        int written = 0;
        for (int by : sheet) if (by >= 0) written++;
        if (counts() > 0 && written < want()) return BigInteger.ZERO;
        BigInteger above = BigInteger.ONE;
        for (int place : where) above = above.multiply(big(100 - sign(sheet, place)));
        return above;
    }

    // ---- the face

    int feed(int sign) {
        if (sign < 0 || sign > 127) return BAD;
        if (all.tape.length() == 100) return FULL;
        all.tape += (char) sign;
        return all.tape.length();
    }

    int school() {
        if (all.schools == 5) return FULL;
        String text = all.tape;
        all.tape = "";
        int fault = fault(text);
        if (fault >= 0) return -10 - fault;
        all.holding = text;
        return all.schools++;
    }

    int way(int kind, int v, int slow) {
        if (kind < 0 || kind > 6) return NONE;
        if (v < 0 || v > 9 || slow < 1 || slow > 60) return BAD;
        if (all.ways.size() == 6) return FULL;
        all.ways.add(new int[] {kind, v, slow, 0, 0, 0, 0});
        return all.ways.size() - 1;
    }

    private boolean noWay(int way) {
        return way < 0 || way >= all.ways.size();
    }

    int of(int way, int what) {
        if (noWay(way) || what < 0 || what > 3) return NONE;
        return what == 3 ? (int) all.sheet.stream().filter(by -> by == way).count() : all.ways.get(way)[what];
    }

    int row(int way, int k, int n) {
        if (noWay(way) || k < 0 || k > 3) return NONE;
        if (n < 0 || n > 9) return BAD;
        if (all.ways.get(way)[0] != 6) return STATE;
        int was = all.ways.get(way)[3 + k];
        all.ways.get(way)[3 + k] = n;
        return was;
    }

    int write(int way, int n) {
        if (noWay(way) && way != -1) return NONE;
        if (n < 1 || n > 40) return BAD;
        if (all.sheet.size() + n > 40) return FULL;
        for (int i = 0; i < n; i++) all.sheet.add(way);
        if (way >= 0) {
            all.spent += seconds(way, n);
            all.paid += pence(way, n);
        }
        return all.sheet.size();
    }

    int tear() {
        int lines = all.sheet.size();
        all.sheet.clear();
        all.shown.clear();
        all.spent = all.paid = 0;
        return lines;
    }

    int line(int place, int what) {
        if (place < 0 || place >= all.sheet.size() || what < 0 || what > 1) return NONE;
        if (what == 1) return sign(all.sheet, place);
        return all.sheet.get(place) < 0 ? -5 : all.sheet.get(place);
    }

    int told(int what) {
        int missing = (int) all.sheet.stream().filter(by -> by < 0).count();
        int[] answers = {all.sheet.size(), all.spent, all.paid, want(), look(), counts(), missing};
        if (what >= 0 && what < 7) return answers[what];
        return what >= 10 && what < 10 + places().size() ? places().get(what - 10) : NONE;
    }

    int cost(int way, int n, int what) {
        if (noWay(way) || what < 0 || what > 1) return NONE;
        if (n < 1 || n > 40) return BAD;
        return what == 0 ? seconds(way, n) : pence(way, n);
    }

    int looks(int place) {
        if (place == -1) {
            all.places.clear();
            return 0;
        }
        if (place < 0 || place > 39 || all.places.contains(place)) return BAD;
        if (all.places.size() == 5) return FULL;
        all.places.add(place);
        return all.places.size();
    }

    long safe(int part) {
        return fraction(unseen(all.sheet, places()), big(100).pow(places().size()), part);
    }

    long again(int part) {
        BigInteger whole = big(100).pow(places().size());
        BigInteger seen = whole.subtract(unseen(all.sheet, places()));
        return fraction(big(want()).multiply(whole.add(seen)), whole, part);
    }

    long twice(int look, int part) {
        if (look < 1 || look > 4) return NO;
        List<Integer> where = new ArrayList<>(places());
        for (int i = 1; i <= look && i <= want(); i++) where.add(want() - i);
        return fraction(unseen(all.sheet, where), big(100).pow(where.size()), part);
    }

    int quick(int n, int pence, int what) {
        if (what < 0 || what > 1) return NONE;
        if (n < 1 || n > 40 || pence < 0 || pence > 999) return BAD;
        int[] best = null;
        for (int way = all.ways.size() - 1; way >= 0; way--) {
            if (pence(way, n) > pence) continue;
            if (best == null || seconds(way, n) <= best[1]) best = new int[] {way, seconds(way, n)};
        }
        return best == null ? -5 : best[what];
    }

    int change(int n, int pence, int what) {
        if (what < 0 || what > 3) return NONE;
        if (n < 1 || n > 40 || pence < 0 || pence > 999) return BAD;
        int[] best = null;
        for (int k = 0; k <= n; k++) {
            for (int first = 0; first < all.ways.size(); first++) {
                for (int second = 0; second < all.ways.size(); second++) {
                    if (pence(first, k) + pence(second, n - k) > pence) continue;
                    int all = seconds(first, k) + seconds(second, n - k);
                    if (best == null || all < best[0]) {
                        best = new int[] {all, k == 0 ? 0 : first, k, k == n ? 0 : second};
                    }
                }
            }
        }
        return best == null ? -5 : best[what];
    }

    int rests(int way, int n, int r, int what) {
        if (noWay(way) || what < 0 || what > 1) return NONE;
        if (n < 1 || n > 40 || r < 0 || r > 99) return BAD;
        int[] best = {0, Integer.MAX_VALUE};
        for (int runs = 1; runs <= n; runs++) {
            int[] lines = new int[runs];
            for (int i = 0; i < n; i++) lines[i % runs]++;
            int sum = (runs - 1) * r;
            for (int one : lines) sum += seconds(way, one);
            if (sum < best[1]) best = new int[] {runs, sum};
        }
        return best[what];
    }

    int mend(int way) {
        if (noWay(way)) return NONE;
        BigInteger greatest = unseen(all.sheet, places());
        int best = -5;
        for (int place : places()) {
            if (place >= all.sheet.size()) continue;
            List<Integer> mended = new ArrayList<>(all.sheet);
            mended.set(place, way);
            BigInteger then = unseen(mended, places());
            if (then.compareTo(greatest) > 0) {
                greatest = then;
                best = place;
            }
        }
        return best;
    }

    int where(int k) {
        if (k < 0 || k >= look() || k >= want()) return NONE;
        List<int[]> order = new ArrayList<>();
        for (int i = 0; i < want(); i++) order.add(new int[] {sign(all.sheet, i), i});
        order.sort((a, b) -> b[0] - a[0]);
        return order.get(k)[1];
    }

    int left() {
        if (counts() > 0) return 0;
        int left = 0;
        for (int i = 0; i < all.sheet.size(); i++) {
            if (all.sheet.get(i) >= 0 && !places().contains(i)) left++;
        }
        return left;
    }

    int longest(int what) {
        if (what < 0 || what > 1) return NONE;
        int[] best = {-5, -5};
        for (int from = 0; from < all.sheet.size(); from++) {
            int to = from;
            while (to < all.sheet.size() && all.sheet.get(to).equals(all.sheet.get(from))) to++;
            if (all.sheet.get(from) >= 0 && to - from > best[0]) best = new int[] {to - from, from};
        }
        return best[what];
    }

    int show(int place) {
        if (place == -1) {
            all.shown.clear();
            return 0;
        }
        if (place < 0 || place >= all.sheet.size()) return NONE;
        if (all.shown.size() == 6) return FULL;
        all.shown.add(place);
        return all.shown.size();
    }

    int whose() {
        int bits = 0;
        for (int way = 0; way < all.ways.size(); way++) {
            boolean by = true;
            for (int place : all.shown) {
                List<Integer> then = new ArrayList<>(all.sheet);
                then.set(place, way);
                by &= sign(then, place) > 0;
            }
            if (by) bits += (int) Math.pow(2, way);
        }
        return bits;
    }

    int wanted(int n) {
        if (n == -1) {
            all.days.clear();
            return 0;
        }
        if (n < 0 || n > 40) return BAD;
        if (all.days.size() == 8) return FULL;
        all.days.add(n);
        return all.days.size();
    }

    private long[] stocked(int over, int lack) {
        long[] best = {0, Long.MAX_VALUE};
        for (int n = 0; n <= 40; n++) {
            long sum = 0;
            for (int day : all.days) sum += day < n ? (n - day) * over : (day - n) * lack;
            if (sum < best[1]) best = new long[] {n, sum};
        }
        return best;
    }

    private static boolean badCost(int n) {
        return n < 0 || n > 99;
    }

    int stock(int over, int lack) {
        if (badCost(over) || badCost(lack)) return BAD;
        return all.days.isEmpty() ? -5 : (int) stocked(over, lack)[0];
    }

    long mean(int over, int lack, int part) {
        if (badCost(over) || badCost(lack) || all.days.isEmpty()) return NO;
        return fraction(big(stocked(over, lack)[1]), big(all.days.size()), part);
    }

    /** The greatest least of both columns, where a row is drawn for certain or the columns are alike. */
    long table(int a, int b, int c, int d, int part) {
        for (int n : new int[] {a, b, c, d}) if (Math.abs((long) n) > 99) return NO;
        int below = a - b - c + d;
        List<int[]> draws = new ArrayList<>(List.of(new int[] {0, 1}, new int[] {1, 1}));
        if (below > 0 && d - c >= 0 && d - c <= below) draws.add(new int[] {d - c, below});
        if (below < 0 && c - d >= 0 && c - d <= -below) draws.add(new int[] {c - d, -below});
        long[] best = null;
        for (int[] p : draws) {
            long left = (long) p[0] * a + (long) (p[1] - p[0]) * c;
            long right = (long) p[0] * b + (long) (p[1] - p[0]) * d;
            long least = Math.min(left, right);
            if (best == null || least * best[1] > best[0] * p[1]) best = new long[] {least, p[1]};
        }
        return fraction(big(best[0]), big(best[1]), part);
    }

    int book(int place, int way) {
        if (place == -1) {
            all.book.clear();
            return 0;
        }
        if (noWay(way) && way != -1) return NONE;
        if (place < 0 || place > 39) return BAD;
        if (all.book.size() == 8) return FULL;
        all.book.add(new int[] {place, way});
        return all.book.size();
    }

    int looked() {
        for (int i = 0; i < all.book.size(); i++) {
            if (at(all.sheet, all.book.get(i)[0]) != all.book.get(i)[1]) return i;
        }
        return -5;
    }

    int act(int way, int act, int x) {
        trace = new ArrayList<>();
        if (noWay(way) || act < 0 || act > 2) return 0;
        return body(way, act, all.ways.get(way)[0], x);
    }

    private int body(int way, int act, int from, int x) {
        int[][] bodies = {{1, 2, 3}, {11, 0, 0}, {0, 21, 0}, {0, 0, 31}, {0, 0, 41}, {51, 0, 0}, {0, 61, 0}};
        int kind = from;
        while (bodies[kind][act] == 0) kind = ABOVE[kind];
        trace.add(bodies[kind][act]);
        int own = all.ways.get(way)[0], v = all.ways.get(way)[1];
        switch (bodies[kind][act]) {
            case 1: return x + way;
            case 2: return body(way, 0, own, x) - v;
            case 3: return body(way, 1, own, x) * 2;
            case 11: return body(way, 0, ABOVE[kind], x * 3);
            case 21: return -body(way, 1, ABOVE[kind], x);
            case 31: return body(way, 2, ABOVE[kind], x) ^ 7;
            case 41: return body(way, 2, ABOVE[kind], x - 1) + body(way, 0, own, 2);
            case 51: return body(way, 0, ABOVE[kind], x) ^ way;
            default: return body(way, 1, ABOVE[kind], x) + v;
        }
    }

    int trace(int i) {
        return i >= 0 && i < trace.size() && i < 20 ? trace.get(i) : NONE;
    }

    int as(int way, int k) {
        if (noWay(way) || k < 0 || k > 6) return NONE;
        for (int kind = all.ways.get(way)[0]; kind >= 0; kind = ABOVE[kind]) {
            if (kind == k) return all.ways.get(way)[1];
        }
        return -6;
    }

    int image() {
        image = all.copy();
        return all.ways.size();
    }

    int undo() {
        if (image == null) return STATE;
        all = image.copy();
        return all.ways.size();
    }

    int count(int what) {
        List<Integer> counts = Arrays.asList(all.ways.size(), all.schools, all.places.size(), all.shown.size(),
            all.days.size(), all.book.size(), all.tape.length(), trace.size());
        return what >= 0 && what < counts.size() ? counts.get(what) : NONE;
    }
}
