import java.math.BigInteger;
import java.util.ArrayList;
import java.util.List;

/** The edges that the document names of the calls' numbers, refusals and STATES (promises 1 to 13, 26 to 28). */
public final class CallEdgesTest {
    private static final int NONE = -1, BAD = -2, NO = -3, FULL = -4;
    private static final Check CHECK = new Check("CallEdgesTest");
    private static String sentence = "";

    /** A call with two numbers; one that takes fewer leaves them. */
    private interface Call {
        long asks(BentQuarters x, int a, int b);
    }

    /** A call and from where to where its numbers may go. */
    private record Edge(String name, Call call, int fromA, int toA, int fromB, int toB) {
    }

    public static void main(String[] args) {
        atFirst();
        neverMoreThan12();
        numbersAsTold();
        indicatorRange();
        yearsHaveQuarters();
        totalWhenAllAreThere();
        totalRange();
        totalWasNone();
        untoldHasNone();
        frozenArePublished();
        limitRange();
        formRange();
        publishesWithoutQuarters();
        publishesWithoutBent();
        recallsNone();
        indicatorsThoseThere();
        noTotalIsNone();
        frozenBits();
        refusedChangesNothing();
        theFirstOfMore();
        refusedAheadOfNone();
        gettersLeaveNoState();
        eachLeavesAState();
        nothingOtherLeavesAState();
        fiveAtMost();
        allButTextAndRefusals();
        backRefused();
        refusedKeepsThePast();
        howOften();
        digestWrapsAround();
        digestOrder();
        CHECK.ends();
    }

    private static void says(String words) {
        sentence = words;
    }

    private static void due(String what, long want, long got) {
        CHECK.due("'" + sentence + "', " + what, want, got);
    }

    private static void same(String what, String want, String got) {
        CHECK.same("'" + sentence + "', " + what, want, got);
    }

    private static int refusals(BentQuarters x) {
        return x.told(0) + x.told(1) + x.told(2);
    }

    // ---- Terms

    private static void atFirst() {
        says("none at first");
        BentQuarters x = new BentQuarters();
        same("a new object", "counts 0 0 0 0 -1 0; year -1 0 -1; year -1 0 -1; year -1 0 -1; shared  stepped 0 0; least 0 others 1"
                + " row  moved 0 0 farthest -1", Making.picture(x));
        same("told", "0 0 0 0 0", Making.told(x));
        x = Making.like(12, 10);
        for (int t = 0; t < 12; t++) {
            due("PUBLISHED", NONE, x.of(t, 1));
            due("FROZEN", 0, x.of(t, 2));
        }
        for (int y = 0; y < 3; y++) {
            due("TOTAL", NONE, x.year(y, 0));
        }
        due("LIMIT", NONE, x.count(4));
        says("FORM 0 DIFFERENCES (at first)");
        due("FORM", 0, x.count(5));
        BentQuarters other = Making.with(1);
        due("one object is not another", 1, other.count(0));
    }

    private static void neverMoreThan12() {
        says("never more than 12");
        BentQuarters x = new BentQuarters();
        for (int t = 0; t < 12; t++) {
            due("number", t, x.quarter(1 + t));
            due("how many", t + 1, x.count(0));
        }
        due("a thirteenth", FULL, x.quarter(50));
        due("how many", 12, x.count(0));
        due("the twelfth", 12, x.of(11, 0));
        due("the first", 1, x.of(0, 0));
        x.back();
        due("one gone, so one more", 11, x.quarter(50));
        due("FULL again", FULL, x.quarter(50));
        due("how often", 2, x.told(2));
    }

    private static Edge one(String name, Call call, int from, int to) {
        return new Edge(name, call, from, to, 0, 0);
    }

    /** All calls that take numbers, there being so many QUARTERS. */
    private static List<Edge> edges(int n) {
        List<Edge> all = new ArrayList<>();
        all.add(one("quarter", (x, a, b) -> x.quarter(a), 1, 99));
        all.add(new Edge("indicates", (x, a, b) -> x.indicates(a, b), 0, n - 1, 1, 99));
        all.add(new Edge("total", (x, a, b) -> x.total(a, b), 0, 2, 0, 999));
        all.add(one("untold", (x, a, b) -> x.untold(a), 0, 2));
        all.add(new Edge("freezes", (x, a, b) -> x.freezes(a, b), 0, n - 1, 0, 1));
        all.add(one("limits", (x, a, b) -> x.limits(a), NONE, 24));
        all.add(one("form", (x, a, b) -> x.form(a), 0, 1));
        all.add(new Edge("of", (x, a, b) -> x.of(a, b), 0, n - 1, 0, 3));
        all.add(new Edge("year", (x, a, b) -> x.year(a, b), 0, 2, 0, 2));
        all.add(one("count", (x, a, b) -> x.count(a), 0, 5));
        all.add(one("bent", (x, a, b) -> x.bent(a), 0, n - 1));
        all.add(one("moved", (x, a, b) -> x.moved(a), 0, 1));
        all.add(one("revised", (x, a, b) -> x.revised(a), 0, n - 1));
        all.add(one("price", (x, a, b) -> x.price(a), 0, 2));
        all.add(one("shared", (x, a, b) -> x.shared(a), 0, n - 1));
        all.add(one("stepped", (x, a, b) -> x.stepped(a), 0, 1));
        all.add(one("type", (x, a, b) -> x.type(a), 0, 127));
        all.add(one("told", (x, a, b) -> x.told(a), 0, 4));
        return all;
    }

    /** With each count of QUARTERS: the last number that may be is not BAD, the first that may not is. */
    private static void numbersAsTold() {
        says("BAD -2 a number is not as told");
        for (int n = 0; n <= 12; n++) {
            for (Edge e : edges(n)) {
                boolean hasA = e.fromA <= e.toA;
                for (int b : new int[] {e.fromB, e.toB}) {
                    fine(n, e, e.fromA, b, hasA);
                    fine(n, e, e.toA, b, hasA);
                    bad(n, e, e.fromA - 1, b);
                    bad(n, e, e.toA + 1, b);
                    bad(n, e, Integer.MIN_VALUE, b);
                    bad(n, e, Integer.MAX_VALUE, b);
                }
                if (e.toB > 0) {
                    int a = Math.max(0, e.toA);
                    bad(n, e, a, e.fromB - 1);
                    bad(n, e, a, e.toB + 1);
                    bad(n, e, a, Integer.MIN_VALUE);
                    bad(n, e, a, Integer.MAX_VALUE);
                }
            }
        }
    }

    private static void fine(int n, Edge e, int a, int b, boolean hasA) {
        if (hasA) {
            BentQuarters x = Making.like(n, 10);
            CHECK.holds("'" + sentence + "', " + e.name + "(" + a + ", " + b + ") with " + n, e.call.asks(x, a, b) != BAD);
            due(e.name + " counts no BAD", 0, x.told(0));
        }
    }

    private static void bad(int n, Edge e, int a, int b) {
        BentQuarters x = Making.like(n, 10);
        due(e.name + "(" + a + ", " + b + ") with " + n, BAD, e.call.asks(x, a, b));
        due(e.name + " counts one BAD", 1, x.told(0));
        due(e.name + " counts nothing else", 0, x.told(1) + x.told(2));
        due(e.name + " leaves no STATE", Math.min(5, n), x.told(4));
    }

    private static void indicatorRange() {
        says("an INDICATOR i (1 .. 99)");
        BentQuarters x = new BentQuarters();
        due("1", 0, x.quarter(1));
        due("99", 1, x.quarter(99));
        due("0", BAD, x.quarter(0));
        due("100", BAD, x.quarter(100));
        due("two are there", 2, x.count(0));
        due("becomes 99, was 1", 1, x.indicates(0, 99));
        due("becomes 1, was 99", 99, x.indicates(1, 1));
        due("becomes 0", BAD, x.indicates(0, 0));
        due("becomes 100", BAD, x.indicates(0, 100));
        due("is 99", 99, x.of(0, 0));
        due("is 1", 1, x.of(1, 0));
    }

    private static void yearsHaveQuarters() {
        says("YEAR y (0 .. 2) has QUARTERS 4 y to 4 y + 3");
        BentQuarters x = Making.with(1, 2, 4, 8, 16, 32, 64, 99, 3, 5, 7, 9);
        for (int t = 0; t < 12; t++) {
            due("YEAR of " + t, t < 4 ? 0 : t < 8 ? 1 : 2, x.of(t, 3));
        }
        due("year 0", 15, x.year(0, 1));
        due("year 1", 211, x.year(1, 1));
        due("year 2", 24, x.year(2, 1));
        due("year 3", BAD, x.year(3, 1));
        due("year -1", BAD, x.year(-1, 1));
    }

    private static void totalWhenAllAreThere() {
        says("NO: not all its QUARTERS are there");
        BentQuarters x = new BentQuarters();
        for (int n = 0; n <= 12; n++) {
            for (int y = 0; y < 3; y++) {
                if (n < 4 * y + 4) {
                    due("year " + y + " with " + n, NO, x.total(y, 40));
                    due("it has none", NONE, x.year(y, 0));
                } else {
                    due("year " + y + " with " + n, n == 4 * y + 4 ? NONE : 40, x.total(y, 40));
                }
            }
            x.quarter(10);
        }
        due("how often", 4 + 8 + 12, x.told(1));
    }

    private static void totalRange() {
        says("a TOTAL (0 .. 999)");
        BentQuarters x = Making.like(4, 10);
        due("0", NONE, x.total(0, 0));
        due("is 0", 0, x.year(0, 0));
        due("a TOTAL of 0 is one", 1, x.count(1));
        due("999", 0, x.total(0, 999));
        due("is 999", 999, x.year(0, 0));
        due("1000", BAD, x.total(0, 1000));
        due("-1 is not none", BAD, x.total(0, NONE));
        due("is 999 yet", 999, x.year(0, 0));
    }

    private static void totalWasNone() {
        says("what it was (NONE: none; that is no refusal)");
        BentQuarters x = Making.like(4, 10);
        due("none", NONE, x.total(0, 40));
        due("no refusal", 0, refusals(x));
        due("a STATE", 5, x.told(4));
        due("back", 4, x.back());
        due("none again", NONE, x.total(0, 0));
        due("was 0", 0, x.total(0, 40));
        due("was the same", 40, x.total(0, 40));
    }

    private static void untoldHasNone() {
        says("NO: it has none");
        BentQuarters x = Making.like(8, 10);
        due("none", NO, x.untold(0));
        x.total(0, 0);
        due("another year's", NO, x.untold(1));
        due("a year that is not there", NO, x.untold(2));
        due("0 is one", 0, x.untold(0));
        due("none now", NO, x.untold(0));
        x.total(1, 999);
        due("999", 999, x.untold(1));
        due("how often", 4, x.told(1));
    }

    private static void frozenArePublished() {
        says("NO: it is not PUBLISHED");
        BentQuarters x = Making.like(2, 10);
        due("on", NO, x.freezes(0, 1));
        due("off", NO, x.freezes(0, 0));
        x.publishes();
        x.quarter(10);
        due("published, on", 1, x.freezes(1, 1));
        due("published, off, though it was not", 1, x.freezes(0, 0));
        due("a new one", NO, x.freezes(2, 1));
        due("a new one, off", NO, x.freezes(2, 0));
        due("no such one", BAD, x.freezes(3, 1));
        due("the other, on", 2, x.freezes(0, 1));
        due("twice", 2, x.freezes(0, 1));
        due("off", 1, x.freezes(0, 0));
        due("twice off", 1, x.freezes(0, 0));
        due("how often NO", 4, x.told(1));
        x.publishes();
        due("FROZEN stays when it is PUBLISHED anew", 2, x.count(3));
        due("PUBLISHED now", 2, x.freezes(2, 1));
    }

    private static void limitRange() {
        says("LIMIT (0 .. 24; none at first)");
        BentQuarters x = new BentQuarters();
        due("none was", NONE, x.limits(0));
        due("no refusal", 0, refusals(x));
        due("was 0", 0, x.limits(24));
        due("25", BAD, x.limits(25));
        due("-2", BAD, x.limits(-2));
        due("24 yet", 24, x.count(4));
        due("none", 24, x.limits(NONE));
        due("none", NONE, x.count(4));
        due("none and none", NONE, x.limits(NONE));
        due("how often", 2, x.told(0));
        due("STATES", 4, x.told(4));
    }

    private static void formRange() {
        says("FORM 0 DIFFERENCES (at first), 1 RATIOS");
        BentQuarters x = new BentQuarters();
        due("at first", 0, x.form(0));
        due("0", 0, x.form(1));
        due("2", BAD, x.form(2));
        due("-1", BAD, x.form(-1));
        due("1 yet", 1, x.count(5));
        due("1", 1, x.form(0));
    }

    // ---- promises 9 to 13

    private static void publishesWithoutQuarters() {
        says("NO: there is no BENT (without QUARTERS it is there, with none)");
        BentQuarters x = new BentQuarters();
        due("none", 0, x.publishes());
        due("a STATE", 1, x.told(4));
        due("no refusal", 0, refusals(x));
        due("none PUBLISHED", 0, x.count(2));
        due("moved", 0, x.moved(0));
        due("moved by ratios", 0, x.moved(1));
        due("with LIMIT 0", NONE, x.limits(0));
        due("none", 0, x.publishes());
        due("one", 0, x.quarter(5));
        due("it is not PUBLISHED", NONE, x.of(0, 1));
    }

    private static void publishesWithoutBent() {
        says("NO: there is no BENT");
        BentQuarters x = Making.like(4, 10);
        x.total(0, 73);
        due("too much", NO, x.publishes());
        due("none PUBLISHED", 0, x.count(2));
        x.total(0, 72);
        due("just so much", 4, x.publishes());
        x.total(0, 7);
        due("too little", NO, x.publishes());
        due("PUBLISHED as it was", 26, x.of(3, 1));
        x.total(0, 8);
        due("just so little", 4, x.publishes());
        due("PUBLISHED anew", 10, x.of(3, 1));
        due("how often", 2, x.told(1));
    }

    private static void recallsNone() {
        says("Nothing is PUBLISHED, none FROZEN: how many were PUBLISHED");
        BentQuarters x = new BentQuarters();
        due("no QUARTERS", 0, x.recalls());
        due("a STATE", 1, x.told(4));
        x = Making.like(11, 10);
        x.publishes();
        x.quarter(10);
        for (int t = 0; t < 11; t++) {
            x.freezes(t, 1);
        }
        due("eleven", 11, x.recalls());
        due("none PUBLISHED", 0, x.count(2));
        due("none FROZEN", 0, x.count(3));
        due("none", 0, x.recalls());
        x.publishes();
        due("none FROZEN of what is PUBLISHED then", 0, x.count(3));
        due("twelve", 12, x.recalls());
    }

    private static void indicatorsThoseThere() {
        says("its INDICATORS together (1; those there)");
        BentQuarters x = new BentQuarters();
        int[] sums = new int[3];
        for (int t = 0; t <= 12; t++) {
            for (int y = 0; y < 3; y++) {
                due("year " + y + " with " + t, sums[y], x.year(y, 1));
            }
            if (t < 12) {
                x.quarter(99 - t);
                sums[t / 4] += 99 - t;
            }
        }
        x.indicates(11, 1);
        due("as they are now", sums[2] - 87, x.year(2, 1));
    }

    private static void noTotalIsNone() {
        says("NONE: no TOTAL (0, 2)");
        BentQuarters x = Making.like(12, 10);
        for (int y = 0; y < 3; y++) {
            due("TOTAL", NONE, x.year(y, 0));
            due("GAP", NONE, x.year(y, 2));
            due("INDICATORS are told", 40, x.year(y, 1));
            x.total(y, 39);
            due("TOTAL", 39, x.year(y, 0));
            due("GAP of -1 and 1000", 999, x.year(y, 2));
            due("YEARS with a TOTAL", 1, x.count(1));
            x.untold(y);
            due("GAP no more", NONE, x.year(y, 2));
        }
        due("no refusals", 0, refusals(x));
    }

    private static void frozenBits() {
        says("FROZEN ones (3, bits)");
        BentQuarters x = Making.like(12, 10);
        x.publishes();
        int bits = 0;
        for (int k = 0; k < 12; k++) {
            int t = 5 * k % 12;
            bits += 1 << t;
            due("how many", k + 1, x.freezes(t, 1));
            due("bits", bits, x.count(3));
            due("whether", 1, x.of(t, 2));
        }
        due("all", 4095, x.count(3));
        x.freezes(11, 0);
        due("but the last", 2047, x.count(3));
        x.freezes(0, 0);
        due("nor the first", 2046, x.count(3));
        due("not FROZEN", 0, x.of(0, 2) + x.of(11, 2));
    }

    // ---- refusals

    /** QUARTERS 0 to 4 are PUBLISHED, 5 is not; LIMIT and TOTAL leave no BENT, if told so; there is some of THE TEXT. */
    private static BentQuarters six(boolean bent) {
        BentQuarters x = Making.like(5, 10);
        x.total(0, 44);
        x.publishes();
        x.freezes(1, 1);
        x.quarter(12);
        x.limits(1);
        x.total(0, bent ? 46 : 60);
        Making.types(x, "p;");
        return x;
    }

    private static void refused(String name, Call call, BentQuarters x, BentQuarters twin, int why) {
        String before = Making.picture(x);
        int[] told = new int[5];
        for (int what = 0; what < 5; what++) {
            told[what] = x.told(what);
        }
        due(name, why, call.asks(x, 0, 0));
        told[BAD - why]++;
        for (int what = 0; what < 5; what++) {
            due(name + ", told " + what, told[what], x.told(what));
        }
        same(name + ", picture", before, Making.picture(x));
        same(name + ", past", Making.past(twin), Making.past(x));
    }

    private static void refusedChangesNothing() {
        says("Refused (any call, getters, too), changing nothing but how often");
        for (boolean bent : new boolean[] {true, false}) {
            for (Edge e : edges(6)) {
                int a = e.toA + 1;
                refused(e.name, (x, p, q) -> e.call.asks(x, a, e.fromB), six(bent), six(bent), BAD);
            }
            refused("total of a year not there", (x, p, q) -> x.total(1, 5), six(bent), six(bent), NO);
            refused("untold of a year without", (x, p, q) -> x.untold(1), six(bent), six(bent), NO);
            refused("freezes what is not PUBLISHED", (x, p, q) -> x.freezes(5, 1), six(bent), six(bent), NO);
            refused("revised, not PUBLISHED", (x, p, q) -> x.revised(5), six(bent), six(bent), NO);
            refused("price of a year without", (x, p, q) -> x.price(1), six(bent), six(bent), NO);
        }
        refused("publishes", (x, p, q) -> x.publishes(), six(false), six(false), NO);
        refused("bent", (x, p, q) -> x.bent(0), six(false), six(false), NO);
        refused("moved", (x, p, q) -> x.moved(1), six(false), six(false), NO);
        refused("revised", (x, p, q) -> x.revised(0), six(false), six(false), NO);
        refused("farthest", (x, p, q) -> x.farthest(), six(false), six(false), NO);
        refused("price", (x, p, q) -> x.price(0), six(false), six(false), NO);
        refused("back", (x, p, q) -> x.back(), new BentQuarters(), new BentQuarters(), NO);
        refused("quarter", (x, p, q) -> x.quarter(5), Making.like(12, 10), Making.like(12, 10), FULL);
        BentQuarters full = six(true);
        Making.types(full, " ".repeat(118));
        refused("type", (x, p, q) -> x.type('p'), full, six(true), FULL);
    }

    private static void theFirstOfMore() {
        says("the first of: BAD, NO, FULL");
        BentQuarters x = six(false);
        due("total", BAD, x.total(1, 1000));
        due("total of a year that never is", BAD, x.total(3, 5));
        due("freezes", BAD, x.freezes(5, 2));
        due("bent", BAD, x.bent(6));
        due("moved", BAD, x.moved(2));
        due("revised", BAD, x.revised(6));
        due("price", BAD, x.price(3));
        x = Making.like(12, 10);
        due("quarter", BAD, x.quarter(0));
        due("quarter", BAD, x.quarter(100));
        Making.types(x, " ".repeat(120));
        due("type", BAD, x.type(128));
        due("FULL never", 0, x.told(2));
        due("FULL then", FULL, x.quarter(1));
        due("FULL then", FULL, x.type(0));
        due("twice", 2, x.told(2));
    }

    /** Where a call's NONE and its refusal are both due, it is refused: what is refused answers nothing else. */
    private static void refusedAheadOfNone() {
        says("NONE: nothing is PUBLISHED. NO: there is no BENT.");
        BentQuarters x = Making.like(4, 10);
        x.total(0, 72);
        due("nothing PUBLISHED, BENT", NONE, x.farthest());
        due("that is no refusal", 0, refusals(x));
        x.total(0, 73);
        due("nothing PUBLISHED, no BENT", NO, x.farthest());
        due("that is one", 1, x.told(1));
        x.total(0, 40);
        x.publishes();
        due("PUBLISHED, BENT", 0, x.farthest());
        x.total(0, 73);
        due("PUBLISHED, no BENT", NO, x.farthest());
        x.recalls();
        due("PUBLISHED no more, no BENT", NO, x.farthest());
        due("how often", 3, x.told(1));
        says("NONE: no TOTAL (0, 2). BAD.");
        due("no such YEAR, so no TOTAL", BAD, x.year(3, 0));
        due("no TOTAL, and no such number", BAD, x.year(2, 3));
        says("(NONE: none; that is no refusal). S. BAD; NO");
        due("had none, and not all there", NO, x.total(1, 5));
        due("had none, and 1000", BAD, x.total(0, 1000));
        due("was none, and 25", BAD, x.limits(25));
    }

    // ---- STATES

    private static void gettersLeaveNoState() {
        says("each call told S leaves one");
        BentQuarters x = six(true);
        for (int k = 0; k < 3; k++) {
            x.back();
        }
        int states = x.told(4);
        x.of(0, 1);
        x.year(0, 2);
        x.count(3);
        x.bent(0);
        x.moved(1);
        x.revised(0);
        x.farthest();
        x.least();
        x.price(0);
        x.others();
        x.shared(0);
        x.stepped(1);
        x.type('x');
        x.does();
        x.clear();
        x.told(0);
        x.digest();
        due("none of those that are not told S", states, x.told(4));
        due("two", 2, states);
    }

    private static void eachLeavesAState() {
        says("each call told S, if it is not refused, leaves one");
        BentQuarters x = new BentQuarters();
        List<String> pictures = new ArrayList<>();
        Call[] calls = {(y, a, b) -> y.quarter(10), (y, a, b) -> y.indicates(0, 12), (y, a, b) -> y.quarter(11),
            (y, a, b) -> Making.tells(y, "q12;q13;"), (y, a, b) -> y.total(0, 50), (y, a, b) -> y.publishes(),
            (y, a, b) -> y.freezes(3, 1), (y, a, b) -> y.limits(2), (y, a, b) -> y.form(1), (y, a, b) -> y.total(0, 52),
            (y, a, b) -> y.freezes(3, 0), (y, a, b) -> y.untold(0), (y, a, b) -> y.recalls(), (y, a, b) -> y.limits(NONE)};
        for (int k = 0; k < calls.length; k++) {
            pictures.add(Making.picture(x));
            int states = x.told(4);
            CHECK.holds("'" + sentence + "', call " + k + " is not refused", calls[k].asks(x, 0, 0) >= NONE);
            due("call " + k, Math.min(5, states + 1), x.told(4));
            String now = Making.picture(x);
            x.back();
            same("back from call " + k, pictures.get(k), Making.picture(x));
            calls[k].asks(x, 0, 0);
            same("call " + k + " again", now, Making.picture(x));
        }
    }

    private static void nothingOtherLeavesAState() {
        says("also if nothing becomes other by it");
        Call[] calls = {(x, a, b) -> x.indicates(2, 10), (x, a, b) -> x.total(0, 40), (x, a, b) -> x.limits(NONE),
            (x, a, b) -> x.form(0), (x, a, b) -> x.recalls(), (x, a, b) -> Making.tells(x, "o;")};
        for (int k = 0; k < calls.length; k++) {
            BentQuarters x = new BentQuarters();
            Making.tells(x, "q10;q10;q10;q10;t0 40;");
            String before = Making.picture(x);
            calls[k].asks(x, 0, 0);
            same("call " + k + ", picture", before, Making.picture(x));
            due("call " + k, 2, x.told(4));
            due("back from call " + k, 1, x.back());
            same("back from call " + k, before, Making.picture(x));
        }
        BentQuarters x = new BentQuarters();
        Making.tells(x, "q10;p;z0 1;");
        x.publishes();
        due("publishes the same", 2, x.told(4));
        x.freezes(0, 1);
        due("freezes what is FROZEN", 3, x.told(4));
        due("back", 2, x.back());
        due("FROZEN yet", 1, x.count(3));
    }

    private static void fiveAtMost() {
        says("5 at most, older ones lost");
        for (int n = 1; n <= 12; n++) {
            BentQuarters x = Making.like(n, 10);
            int states = Math.min(5, n);
            due("STATES of " + n, states, x.told(4));
            for (int k = 1; k <= states; k++) {
                due("can be yet", states - k, x.back());
                due("QUARTERS", n - k, x.count(0));
            }
            due("none", NO, x.back());
            due("QUARTERS", n - states, x.count(0));
        }
        BentQuarters x = Making.like(6, 10);
        x.back();
        x.back();
        x.quarter(11);
        due("four and one", 4, x.told(4));
        x.quarter(12);
        x.quarter(13);
        due("five again", 5, x.told(4));
        for (int k = 4; k >= 0; k--) {
            due("can be yet", k, x.back());
        }
        due("the two oldest are lost", 2, x.count(0));
    }

    private static void allButTextAndRefusals() {
        says("(all but THE TEXT and how often refused)");
        BentQuarters x = new BentQuarters();
        Making.types(x, "q5;");
        x.quarter(10);
        Making.types(x, "q6;");
        x.quarter(0);
        x.untold(0);
        x.back();
        due("bytes", 6, x.told(3));
        due("BAD", 1, x.told(0));
        due("NO", 1, x.told(1));
        due("both orders", 2, x.does());
        x.clear();
        x.back();
        due("THE TEXT stays empty", 0, x.told(3));
        due("none", 0, x.count(0));
        Making.tells(x, "q1;q2;q3;q4;t0 12;p;z1 1;z2 1;l3;f1;");
        String before = Making.picture(x);
        Making.tells(x, "n0;z1 0;o;f0;q9;p;");
        x.indicates(0, 9);
        x.recalls();
        CHECK.holds("'" + sentence + "', all is other", !before.equals(Making.picture(x)));
        x.back();
        x.back();
        x.back();
        same("all comes back", before, Making.picture(x));
    }

    private static void backRefused() {
        says("A STATE back: how many can be yet. NO: none.");
        BentQuarters x = new BentQuarters();
        due("none", NO, x.back());
        x.quarter(5);
        due("one", 0, x.back());
        due("none", NO, x.back());
        due("back leaves no STATE itself", NO, x.back());
        due("how often", 3, x.told(1));
        x.quarter(5);
        due("one again", 0, x.back());
    }

    /** With five STATES, none is lost by a call that was refused. */
    private static void refusedKeepsThePast() {
        says("each call told S, if it is not refused");
        BentQuarters x = Making.like(5, 10);
        BentQuarters twin = Making.like(5, 10);
        x.quarter(0);
        x.indicates(5, 5);
        x.total(1, 5);
        x.untold(0);
        x.freezes(0, 1);
        x.limits(25);
        x.form(2);
        Making.tells(x, "q5;q6;q7;t1 1;q0;");
        Making.tells(x, "q5;q6;q7;t1 999;p;");
        Making.tells(x, "q5;x");
        due("five", 5, x.told(4));
        same("past", Making.past(twin), Making.past(x));
    }

    private static void howOften() {
        says("How often refused: BAD (0), NO (1), FULL (2); bytes of THE TEXT (3), STATES (4)");
        BentQuarters x = Making.like(12, 10);
        for (int k = 1; k <= 3; k++) {
            x.limits(99);
            same("BAD", k + " " + (k - 1) + " " + (k - 1) + " " + (k - 1) + " 5", Making.told(x));
            x.untold(0);
            same("NO", k + " " + k + " " + (k - 1) + " " + (k - 1) + " 5", Making.told(x));
            x.quarter(5);
            same("FULL", k + " " + k + " " + k + " " + (k - 1) + " 5", Making.told(x));
            x.type(' ');
            same("bytes", k + " " + k + " " + k + " " + k + " 5", Making.told(x));
        }
        due("5", BAD, x.told(5));
        due("it counts itself", 4, x.told(0));
        due("-1", BAD, x.told(-1));
        due("it counts itself", 5, x.told(0));
        x.back();
        due("STATES", 4, x.told(4));
    }

    // ---- digest

    private static BigInteger fold(BigInteger h, long v) {
        return h.multiply(BigInteger.valueOf(31)).add(BigInteger.valueOf(v));
    }

    /** The digest, without any bound, from what the calls answer; none of them is refused. */
    private static BigInteger unbounded(BentQuarters x) {
        BigInteger h = BigInteger.valueOf(1980);
        for (int what = 0; what <= 4; what++) {
            h = fold(h, x.told(what));
        }
        for (int what = 0; what <= 5; what++) {
            h = fold(h, x.count(what));
        }
        for (int t = 0; t < x.count(0); t++) {
            for (int what = 0; what <= 3; what++) {
                h = fold(h, x.of(t, what));
            }
            h = fold(h, x.shared(t));
        }
        for (int y = 0; y <= 2; y++) {
            for (int what = 0; what <= 2; what++) {
                h = fold(h, x.year(y, what));
            }
        }
        boolean bent = x.others() > 0;
        h = fold(h, bent ? 1 : 0);
        for (int t = 0; bent && t < x.count(0); t++) {
            h = fold(h, x.bent(t));
        }
        for (int k = 0; bent && k <= 1; k++) {
            h = fold(h, x.moved(k));
        }
        return fold(fold(h, x.stepped(0)), x.stepped(1));
    }

    private static void digestWrapsAround() {
        says("h = 31 h + v, a long, with what a wrap-around makes of it");
        BigInteger most = BigInteger.valueOf(Long.MAX_VALUE);
        int below = 0;
        for (int n = 0; n <= 12; n++) {
            BentQuarters x = Making.like(n, 7 + n);
            for (int y = 0; y < n / 4; y++) {
                x.total(y, 4 * (7 + n) + y);
            }
            x.publishes();
            CHECK.holds("'" + sentence + "', beyond a long", unbounded(x).compareTo(most) > 0);
            due("with " + n, unbounded(x).longValue(), x.digest());
            below += x.digest() < 0 ? 1 : 0;
            if (n >= 4) {
                x.total(0, 999);
                due("without BENT, with " + n, unbounded(x).longValue(), x.digest());
                below += x.digest() < 0 ? 1 : 0;
            }
        }
        CHECK.holds("'" + sentence + "', some are below 0: " + below, below > 0 && below < 22);
    }

    private static void digestOrder() {
        says("whether there is BENT (1, 0), if so of each QUARTER bent(), then moved(0), moved(1)");
        BentQuarters x = six(true);
        String told = Making.told(x);
        due("with BENT", unbounded(x).longValue(), x.digest());
        same("it counts nothing", told, Making.told(x));
        x = six(false);
        x.quarter(0);
        x.bent(0);
        told = Making.told(x);
        due("without BENT", unbounded(x).longValue(), x.digest());
        same("it counts nothing", told, Making.told(x));
        due("asked twice", x.digest(), x.digest());
        long before = x.digest();
        x.type(' ');
        CHECK.holds("'" + sentence + "', THE TEXT's length is in it", before != x.digest());
        x.clear();
        Making.types(x, "p;");
        due("as before", before, x.digest());
        x.count(6);
        CHECK.holds("'" + sentence + "', how often is in it", before != x.digest());
    }
}
