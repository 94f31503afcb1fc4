import java.util.ArrayDeque;
import java.util.ArrayList;
import java.util.Arrays;
import java.util.List;
import java.util.function.IntSupplier;
import java.util.regex.Matcher;
import java.util.regex.Pattern;

/** A second program of the document, plain and slow, to hold the class against: it goes forward, and keeps whole rows. */
final class Model {
    static final int NONE = -1, BAD = -2, NO = -3, FULL = -4;

    /** A row, or the beginning of one, and how many are as good as it. */
    private record Best(long moved, int away, long ways, List<Integer> xs) {
        int compare(Best other) {
            return moved != other.moved ? Long.compare(moved, other.moved) : Integer.compare(away, other.away);
        }

        boolean isAheadOf(Best other) {
            for (int t = 0; t < xs.size(); t++) {
                if (!xs.get(t).equals(other.xs.get(t))) {
                    return xs.get(t) < other.xs.get(t);
                }
            }
            return false;
        }

        Best joined(Best other) {
            if (other == null || compare(other) < 0) {
                return this;
            }
            if (compare(other) > 0) {
                return other;
            }
            Best first = isAheadOf(other) ? this : other;
            return new Best(moved, away, ways + other.ways, first.xs);
        }
    }

    private record State(List<Integer> indicators, Integer[] totals, List<Integer> published, boolean[] frozen,
            Integer limit, int form) {
    }

    List<Integer> indicators = new ArrayList<>();
    Integer[] totals = new Integer[3];
    List<Integer> published = new ArrayList<>();
    boolean[] frozen = new boolean[12];
    Integer limit = null;
    int form = 0;
    private final ArrayDeque<State> states = new ArrayDeque<>();
    private final int[] refused = new int[3];
    private String text = "";
    private Best bent = null;
    private boolean fresh = false;

    // ---- what MEETS

    private boolean mayBe(int t, int x, Integer limitThen) {
        Integer p = published.get(t);
        return Math.abs(x - indicators.get(t)) <= 8 && (!frozen[t] || x == p)
                && (limitThen == null || p == null || Math.abs(x - p) <= limitThen);
    }

    private static long step(int k, int x, int i, int xAhead, int iAhead) {
        long step = k == 0 ? (x - i) - (xAhead - iAhead) : (long) x * iAhead - (long) xAhead * i;
        return step * step;
    }

    /** BENT with these totals and that limit, or null. */
    private Best bends(Integer[] totalsThen, Integer limitThen) {
        // the states: the sum of the year's x so far (0 and up, 40 added), and x of the last quarter (8 added)
        Best[] now = new Best[SUMS * XS];
        now[40 * XS + 8] = new Best(0, 0, 1, List.of());
        for (int t = 0; t < indicators.size(); t++) {
            now = steps(now, t, totalsThen, limitThen);
        }
        Best best = null;
        for (Best b : now) {
            best = b == null ? best : b.joined(best);
        }
        return best;
    }

    private static final int SUMS = 500;
    private static final int XS = 120;

    private Best[] steps(Best[] now, int t, Integer[] totalsThen, Integer limitThen) {
        Best[] then = new Best[now.length];
        int i = indicators.get(t);
        Integer total = totalsThen[t / 4];
        for (int at = 0; at < now.length; at++) {
            if (now[at] == null) {
                continue;
            }
            int sum = at / XS - 40;
            int ahead = at % XS - 8;
            for (int x = i - 8; x <= i + 8; x++) {
                int sumThen = total == null ? 0 : sum + x;
                if (!mayBe(t, x, limitThen) || t % 4 == 3 && total != null && sumThen != total) {
                    continue;
                }
                long moved = t == 0 ? 0 : step(form, x, i, ahead, indicators.get(t - 1));
                List<Integer> xs = new ArrayList<>(now[at].xs);
                xs.add(x);
                Best b = new Best(now[at].moved + moved, now[at].away + (x - i) * (x - i), now[at].ways, xs);
                int to = ((t % 4 == 3 ? 0 : sumThen) + 40) * XS + x + 8;
                then[to] = b.joined(then[to]);
            }
        }
        return then;
    }

    private Best bent() {
        if (!fresh) {
            bent = bends(totals, limit);
            fresh = true;
        }
        return bent;
    }

    /** BENT's x, those that are MOVED and AWAY as little, by trial of every row; null if there is none. */
    int[] tried(long[] found) {
        int n = indicators.size();
        int[] row = new int[n];
        int[][] best = {null};
        found[0] = Long.MAX_VALUE;
        found[1] = Long.MAX_VALUE;
        found[2] = 0;
        tries(0, row, best, found);
        return best[0];
    }

    private void tries(int t, int[] row, int[][] best, long[] found) {
        if (t < row.length) {
            for (int x = indicators.get(t) - 8; x <= indicators.get(t) + 8; x++) {
                if (mayBe(t, x, limit)) {
                    row[t] = x;
                    tries(t + 1, row, best, found);
                }
            }
            return;
        }
        for (int y = 0; y < 3; y++) {
            int all = 0;
            for (int u = 4 * y; u < 4 * y + 4 && u < row.length; u++) {
                all += row[u];
            }
            if (totals[y] != null && totals[y] != all) {
                return;
            }
        }
        long moved = movement(row, form);
        long away = 0;
        for (int u = 0; u < row.length; u++) {
            away += (long) (row[u] - indicators.get(u)) * (row[u] - indicators.get(u));
        }
        if (moved < found[0] || moved == found[0] && away < found[1]) {
            found[0] = moved;
            found[1] = away;
            found[2] = 0;
            best[0] = row.clone();
        }
        found[2] += moved == found[0] && away == found[1] ? 1 : 0;
    }

    /** How many rows a trial would see. */
    long rowsToTry() {
        long rows = 1;
        for (int t = 0; t < indicators.size(); t++) {
            long may = 0;
            for (int x = indicators.get(t) - 8; x <= indicators.get(t) + 8; x++) {
                may += mayBe(t, x, limit) ? 1 : 0;
            }
            rows *= Math.max(1, may);
        }
        return rows;
    }

    private long movement(int[] xs, int k) {
        long sum = 0;
        for (int t = 1; t < xs.length; t++) {
            sum += step(k, xs[t], indicators.get(t), xs[t - 1], indicators.get(t - 1));
        }
        return sum;
    }

    private int[] bentRow() {
        return bent().xs.stream().mapToInt(Integer::intValue).toArray();
    }

    // ---- refusals and states

    private int refuse(int why) {
        refused[-2 - why]++;
        return why;
    }

    private State state() {
        return new State(new ArrayList<>(indicators), totals.clone(), new ArrayList<>(published), frozen.clone(), limit,
                form);
    }

    private void become(State s) {
        indicators = new ArrayList<>(s.indicators);
        totals = s.totals.clone();
        published = new ArrayList<>(s.published);
        frozen = s.frozen.clone();
        limit = s.limit;
        form = s.form;
        fresh = false;
    }

    private void keep(State s) {
        states.addLast(s);
        if (states.size() > 5) {
            states.removeFirst();
        }
    }

    private int changes(IntSupplier call) {
        State before = state();
        int answer = call.getAsInt();
        if (answer < NONE) {
            return refuse(answer);
        }
        keep(before);
        return answer;
    }

    private boolean isQuarter(int t) {
        return t >= 0 && t < indicators.size();
    }

    private static int told(Integer v) {
        return v == null ? NONE : v;
    }

    // ---- the calls, by name

    long call(String name, int a, int b) {
        switch (name) {
            case "quarter", "indicates", "total", "untold", "freezes", "limits", "form", "publishes", "recalls":
                return changes(() -> change(name, a, b));
            case "of": return isQuarter(a) && b >= 0 && b <= 3 ? ofQuarter(a, b) : refuse(BAD);
            case "year": return a >= 0 && a <= 2 && b >= 0 && b <= 2 ? ofYear(a, b) : refuse(BAD);
            case "count": return a >= 0 && a <= 5 ? countOf(a) : refuse(BAD);
            case "bent", "moved", "revised", "farthest", "least", "price", "others":
                return ofBent(name, a);
            case "shared": return isQuarter(a) ? shares()[a] : refuse(BAD);
            case "stepped": return a == 0 || a == 1 ? movement(shares(), a) : refuse(BAD);
            case "digest": return digest();
            default: return ofText(name, a);
        }
    }

    private int change(String name, int a, int b) {
        fresh = false;
        switch (name) {
            case "quarter": return quarter(a);
            case "indicates": return !isQuarter(a) || b < 1 || b > 99 ? BAD : indicators.set(a, b);
            case "total": return total(a, b);
            case "untold": return untold(a);
            case "freezes": return freezes(a, b);
            case "limits": return limits(a);
            case "form": return form(a);
            case "publishes": return publishes();
            default: return recalls();
        }
    }

    private int quarter(int i) {
        if (i < 1 || i > 99) {
            return BAD;
        }
        if (indicators.size() == 12) {
            return FULL;
        }
        indicators.add(i);
        published.add(null);
        return indicators.size() - 1;
    }

    private int total(int y, int v) {
        if (y < 0 || y > 2 || v < 0 || v > 999) {
            return BAD;
        }
        if (!isQuarter(4 * y + 3)) {
            return NO;
        }
        int was = told(totals[y]);
        totals[y] = v;
        return was;
    }

    private int untold(int y) {
        if (y < 0 || y > 2) {
            return BAD;
        }
        int was = told(totals[y]);
        totals[y] = null;
        return was == NONE ? NO : was;
    }

    private int freezes(int t, int on) {
        if (!isQuarter(t) || on < 0 || on > 1) {
            return BAD;
        }
        if (published.get(t) == null) {
            return NO;
        }
        frozen[t] = on == 1;
        return Integer.bitCount(frozenBits());
    }

    private int frozenBits() {
        int bits = 0;
        for (int t = 0; t < 12; t++) {
            bits += frozen[t] ? 1 << t : 0;
        }
        return bits;
    }

    private int limits(int v) {
        if (v < -1 || v > 24) {
            return BAD;
        }
        int was = told(limit);
        limit = v == NONE ? null : Integer.valueOf(v);
        return was;
    }

    private int form(int k) {
        if (k != 0 && k != 1) {
            return BAD;
        }
        int was = form;
        form = k;
        return was;
    }

    private int publishes() {
        if (bent() == null) {
            return NO;
        }
        published = new ArrayList<>(bent().xs);
        fresh = false;
        return published.size();
    }

    private int recalls() {
        int were = publishedOnes();
        published.replaceAll(p -> null);
        frozen = new boolean[12];
        return were;
    }

    private int publishedOnes() {
        return (int) published.stream().filter(p -> p != null).count();
    }

    private int ofQuarter(int t, int what) {
        Integer p = published.get(t);
        int[] of = {indicators.get(t), p == null ? NONE : p + 8, frozen[t] ? 1 : 0, t / 4};
        return of[what];
    }

    private int together(int y) {
        int sum = 0;
        for (int t = 0; t < indicators.size(); t++) {
            sum += t / 4 == y ? indicators.get(t) : 0;
        }
        return sum;
    }

    private int ofYear(int y, int what) {
        int[] of = {told(totals[y]), together(y), totals[y] == null ? NONE : totals[y] - together(y) + 1000};
        return of[what];
    }

    private int countOf(int what) {
        int years = (int) Arrays.stream(totals).filter(v -> v != null).count();
        int[] counts = {indicators.size(), years, publishedOnes(), frozenBits(), told(limit), form};
        return counts[what];
    }

    private long ofBent(String name, int a) {
        switch (name) {
            case "bent": return !isQuarter(a) ? refuse(BAD) : bent() == null ? refuse(NO) : bentRow()[a] + 8;
            case "moved": return a != 0 && a != 1 ? refuse(BAD) : bent() == null ? refuse(NO) : movement(bentRow(), a);
            case "revised":
                return !isQuarter(a) ? refuse(BAD) : bent() == null || published.get(a) == null ? refuse(NO) : revision(a);
            case "farthest": return farthest();
            case "least": return least();
            case "price": return price(a);
            default: return bent() == null ? 0 : Math.min(9999, bent().ways);
        }
    }

    private int revision(int t) {
        return Math.abs(bentRow()[t] - published.get(t));
    }

    private int farthest() {
        if (bent() == null) {
            return refuse(NO);
        }
        int found = NONE;
        for (int t = indicators.size() - 1; t >= 0; t--) {
            if (published.get(t) != null && (found == NONE || revision(t) >= revision(found))) {
                found = t;
            }
        }
        return found;
    }

    private int least() {
        for (int v = 0; v <= 24; v++) {
            if (bends(totals, v) != null) {
                return v;
            }
        }
        return NONE;
    }

    private long price(int y) {
        if (y < 0 || y > 2) {
            return refuse(BAD);
        }
        if (totals[y] == null || bent() == null) {
            return refuse(NO);
        }
        Integer[] without = totals.clone();
        without[y] = null;
        return bent().moved - bends(without, limit).moved;
    }

    private int[] shares() {
        int[] shares = indicators.stream().mapToInt(Integer::intValue).toArray();
        for (int y = 0; y < 3; y++) {
            if (totals[y] == null) {
                continue;
            }
            int all = together(y);
            List<Integer> order = new ArrayList<>();
            int left = totals[y];
            for (int t = 4 * y; t < 4 * y + 4; t++) {
                shares[t] = totals[y] * indicators.get(t) / all;
                left -= shares[t];
                order.add(t);
            }
            int total = totals[y];
            order.sort((t, u) -> total * indicators.get(u) % all - total * indicators.get(t) % all);
            for (int k = 0; k < left; k++) {
                shares[order.get(k)]++;
            }
        }
        return shares;
    }

    // ---- texts

    private long ofText(String name, int a) {
        switch (name) {
            case "type":
                if (a < 0 || a > 127) {
                    return refuse(BAD);
                }
                if (text.length() == 120) {
                    return refuse(FULL);
                }
                text += (char) a;
                return text.length();
            case "clear":
                int had = text.length();
                text = "";
                return had;
            case "does": return does();
            case "back":
                if (states.isEmpty()) {
                    return refuse(NO);
                }
                become(states.removeLast());
                return states.size();
            default: return a < 0 || a > 4 ? refuse(BAD) : toldOf(a);
        }
    }

    private int toldOf(int what) {
        return what < 3 ? refused[what] : what == 3 ? text.length() : states.size();
    }

    private static final String NUMBER = " *([0-9]{1,3}) *";
    private static final String TWO = " *([0-9]{1,3}) +([0-9]{1,3}) *";
    private static final Pattern ORDER =
            Pattern.compile(" *(?:([qnlf])" + NUMBER + "|([tz])" + TWO + "|([op]) *);");
    private static final Pattern TEXT = Pattern.compile("(?:" + ORDER.pattern() + ")+ *");

    /** The first byte with which the text can not go on to be a text of orders. */
    private int fault() {
        for (int k = 1; k <= text.length(); k++) {
            Matcher m = TEXT.matcher(text.substring(0, k));
            if (!m.matches() && !m.hitEnd()) {
                return k - 1;
            }
        }
        return TEXT.matcher(text).matches() ? NONE : text.length();
    }

    private int does() {
        int fault = fault();
        if (fault != NONE) {
            return -10 - fault;
        }
        State before = state();
        Matcher m = ORDER.matcher(text);
        int orders = 0;
        while (m.find()) {
            if (obey(m) < NONE) {
                become(before);
                return -1000 - orders;
            }
            orders++;
        }
        keep(before);
        return orders;
    }

    private int obey(Matcher m) {
        if (m.group(1) != null) {
            String[] calls = {"quarter", "untold", "limits", "form"};
            return change(calls["qnlf".indexOf(m.group(1))], Integer.parseInt(m.group(2)), 0);
        }
        if (m.group(3) != null) {
            String call = m.group(3).equals("t") ? "total" : "freezes";
            return change(call, Integer.parseInt(m.group(4)), Integer.parseInt(m.group(5)));
        }
        return m.group(6).equals("p") ? change("publishes", 0, 0) : change("limits", NONE, 0);
    }

    private long digest() {
        List<Long> all = new ArrayList<>();
        for (int what = 0; what < 5; what++) {
            all.add((long) toldOf(what));
        }
        for (int what = 0; what < 6; what++) {
            all.add((long) countOf(what));
        }
        for (int t = 0; t < indicators.size(); t++) {
            for (int what = 0; what < 4; what++) {
                all.add((long) ofQuarter(t, what));
            }
            all.add((long) shares()[t]);
        }
        for (int y = 0; y < 3; y++) {
            for (int what = 0; what < 3; what++) {
                all.add((long) ofYear(y, what));
            }
        }
        all.add(bent() == null ? 0L : 1L);
        if (bent() != null) {
            bent().xs.forEach(x -> all.add(x + 8L));
            all.add(movement(bentRow(), 0));
            all.add(movement(bentRow(), 1));
        }
        all.add(movement(shares(), 0));
        all.add(movement(shares(), 1));
        return all.stream().reduce(1980L, (h, v) -> 31 * h + v);
    }
}
