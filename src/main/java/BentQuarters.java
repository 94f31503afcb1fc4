/** Quarterly figures bent to meet yearly totals, in whole numbers. README.md tells how to use it. */
public final class BentQuarters {
    public static final int NONE = -1, BAD = -2, NO = -3, FULL = -4;

    private static final int MOST_QUARTERS = 12;
    private static final int YEARS = 3;
    private static final int IN_YEAR = 4;
    private static final int MOST_INDICATOR = 99;
    private static final int MOST_TOTAL = 999;
    private static final int MOST_LIMIT = 24;
    private static final int FORMS = 2;
    private static final int DIFFERENCES = 0;
    private static final int MOST_OTHERS = 9999;
    private static final int MOST_BYTES = 120;
    private static final int MOST_STATES = 5;

    /** How far an x may be from its INDICATOR; added to an x that is told, so that it is never below 1. */
    private static final int REACH = 8;
    private static final int STEPS = 2 * REACH + 1;

    /** AWAY is 12 * 64 at most, so MOVED and AWAY stand in one number that orders ROWS by both. */
    private static final int AWAY_BITS = 10;
    private static final long NOWHERE = 1L << 60;

    /** Where the spots of a year's first, second, third and fourth QUARTER begin: 17, 33, 17 and 1 lefts each. */
    private static final int[] SPOTS_BEGIN = {0, 289, 850, 1139};
    private static final int SPOTS_IN_YEAR = 1156;

    private static final int MOST_FIGURES = 3;
    private static final int FAULT_BASE = -10;
    private static final int ORDER_BASE = -1000;
    private static final int BLANK = 32;
    private static final long DIGEST_BEGIN = 1980;

    private final Figures figures;
    private final Bender bender;
    private final Past past;
    private final Text text;
    private final int[] refusals;
    private final int[] shares;

    public BentQuarters() {
        figures = new Figures();
        bender = new Bender();
        past = new Past();
        text = new Text();
        refusals = new int[3];
        shares = new int[MOST_QUARTERS];
    }

    // ---- figures

    public int quarter(int i) {
        past.holds(figures);
        return settles(figures.adds(i));
    }

    public int indicates(int t, int i) {
        past.holds(figures);
        return settles(figures.reindicates(t, i));
    }

    public int total(int y, int v) {
        past.holds(figures);
        return settles(figures.tells(y, v));
    }

    public int untold(int y) {
        past.holds(figures);
        return settles(figures.untells(y));
    }

    public int freezes(int t, int on) {
        past.holds(figures);
        return settles(figures.ices(t, on));
    }

    public int limits(int v) {
        past.holds(figures);
        return settles(figures.bounds(v));
    }

    public int form(int k) {
        past.holds(figures);
        return settles(figures.shapes(k));
    }

    public int publishes() {
        past.holds(figures);
        return settles(prints());
    }

    public int recalls() {
        past.holds(figures);
        return settles(figures.unprints());
    }

    // ---- what is told

    public int of(int t, int what) {
        if (!figures.has(t) || !within(what, 0, 3)) {
            return refuses(BAD);
        }
        return figures.toldOfQuarter(t, what);
    }

    public int year(int y, int what) {
        if (!isYear(y) || !within(what, 0, 2)) {
            return refuses(BAD);
        }
        return figures.toldOfYear(y, what);
    }

    public int count(int what) {
        if (!within(what, 0, 5)) {
            return refuses(BAD);
        }
        return figures.toldOfAll(what);
    }

    // ---- what is bent

    public int bent(int t) {
        if (!figures.has(t)) {
            return refuses(BAD);
        }
        if (!bender.bends(figures)) {
            return refuses(NO);
        }
        return bender.row[t] + REACH;
    }

    public long moved(int k) {
        if (!isForm(k)) {
            return refuses(BAD);
        }
        if (!bender.bends(figures)) {
            return refuses(NO);
        }
        return figures.movement(bender.row, k);
    }

    public int revised(int t) {
        if (!figures.has(t)) {
            return refuses(BAD);
        }
        if (!figures.isPrinted(t) || !bender.bends(figures)) {
            return refuses(NO);
        }
        return revision(t);
    }

    public int farthest() {
        if (!bender.bends(figures)) {
            return refuses(NO);
        }
        int found = NONE;
        int most = NONE;
        for (int t = 0; t < figures.quarters; t++) {
            if (figures.isPrinted(t) && revision(t) > most) {
                found = t;
                most = revision(t);
            }
        }
        return found;
    }

    public int least() {
        for (int limit = 0; limit <= MOST_LIMIT; limit++) {
            if (bender.meetsWithin(figures, limit)) {
                return limit;
            }
        }
        return NONE;
    }

    public long price(int y) {
        if (!isYear(y)) {
            return refuses(BAD);
        }
        if (figures.totals[y] == NONE || !bender.bends(figures)) {
            return refuses(NO);
        }
        return figures.movement(bender.row, figures.shape) - bender.leastWithout(figures, y);
    }

    public int others() {
        return bender.bends(figures) ? bender.rows : 0;
    }

    public int shared(int t) {
        if (!figures.has(t)) {
            return refuses(BAD);
        }
        return figures.share(t);
    }

    public long stepped(int k) {
        if (!isForm(k)) {
            return refuses(BAD);
        }
        return shareMovement(k);
    }

    // ---- texts

    public int type(int c) {
        if (!within(c, 0, 127)) {
            return refuses(BAD);
        }
        if (text.length >= MOST_BYTES) {
            return refuses(FULL);
        }
        return text.takes(c);
    }

    public int clear() {
        int had = text.length;
        text.length = 0;
        return had;
    }

    public int does() {
        int fault = text.reads();
        if (fault != NONE) {
            return FAULT_BASE - fault;
        }
        past.holds(figures);
        for (int k = 0; k < text.orders; k++) {
            boolean refused = isRefusal(obeys(text.letters[k], text.firsts[k], text.seconds[k]));
            bender.forgets();
            if (refused) {
                past.restores(figures);
                return ORDER_BASE - k;
            }
        }
        past.keeps();
        return text.orders;
    }

    public int back() {
        if (past.states == 0) {
            return refuses(NO);
        }
        past.returns(figures);
        bender.forgets();
        return past.states;
    }

    public int told(int what) {
        if (!within(what, 0, 4)) {
            return refuses(BAD);
        }
        if (what == 3) {
            return text.length;
        }
        return what == 4 ? past.states : refusals[what];
    }

    public long digest() {
        long h = DIGEST_BEGIN;
        for (int what = 0; what <= 4; what++) {
            h = 31 * h + told(what);
        }
        for (int what = 0; what <= 5; what++) {
            h = 31 * h + figures.toldOfAll(what);
        }
        h = digestsFigures(h);
        h = digestsBent(h);
        for (int k = 0; k < FORMS; k++) {
            h = 31 * h + shareMovement(k);
        }
        return h;
    }

    // ---- what the calls share

    private long digestsFigures(long begun) {
        long h = begun;
        for (int t = 0; t < figures.quarters; t++) {
            for (int what = 0; what <= 3; what++) {
                h = 31 * h + figures.toldOfQuarter(t, what);
            }
            h = 31 * h + figures.share(t);
        }
        for (int y = 0; y < YEARS; y++) {
            for (int what = 0; what <= 2; what++) {
                h = 31 * h + figures.toldOfYear(y, what);
            }
        }
        return h;
    }

    private long digestsBent(long begun) {
        if (!bender.bends(figures)) {
            return 31 * begun;
        }
        long h = 31 * begun + 1;
        for (int t = 0; t < figures.quarters; t++) {
            h = 31 * h + bender.row[t] + REACH;
        }
        for (int k = 0; k < FORMS; k++) {
            h = 31 * h + figures.movement(bender.row, k);
        }
        return h;
    }

    private int prints() {
        if (!bender.bends(figures)) {
            return NO;
        }
        for (int t = 0; t < figures.quarters; t++) {
            figures.printed[t] = bender.row[t] + REACH;
        }
        return figures.quarters;
    }

    private int revision(int t) {
        return Math.abs(bender.row[t] + REACH - figures.printed[t]);
    }

    private long shareMovement(int k) {
        for (int t = 0; t < figures.quarters; t++) {
            shares[t] = figures.share(t);
        }
        return figures.movement(shares, k);
    }

    private int obeys(int letter, int a, int b) {
        switch (letter) {
            case 'q': return figures.adds(a);
            case 't': return figures.tells(a, b);
            case 'n': return figures.untells(a);
            case 'z': return figures.ices(a, b);
            case 'l': return figures.bounds(a);
            case 'o': return figures.bounds(NONE);
            case 'f': return figures.shapes(a);
            case 'p': return prints();
            default: return BAD;
        }
    }

    /** Ends a call told S: refused, or with the state that was held kept to go back to. */
    private int settles(int answer) {
        if (isRefusal(answer)) {
            return refuses(answer);
        }
        past.keeps();
        bender.forgets();
        return answer;
    }

    private int refuses(int why) {
        int kind = BAD - why;
        if (within(kind, 0, refusals.length - 1)) {
            refusals[kind]++;
        }
        return why;
    }

    private static boolean isRefusal(int answer) {
        return answer < NONE;
    }

    private static boolean within(int v, int from, int to) {
        return v >= from && v <= to;
    }

    private static boolean isYear(int y) {
        return within(y, 0, YEARS - 1);
    }

    private static boolean isForm(int k) {
        return within(k, 0, FORMS - 1);
    }

    /** All that a STATE holds. Its changes answer as their calls do, but count nothing and keep no STATE. */
    private static final class Figures {
        final int[] indicators = new int[MOST_QUARTERS];
        final int[] totals = new int[YEARS];
        /** PUBLISHED and REACH, or NONE. */
        final int[] printed = new int[MOST_QUARTERS];
        int quarters = 0;
        int frozen = 0;
        int limit = NONE;
        int shape = DIFFERENCES;

        Figures() {
            for (int y = 0; y < YEARS; y++) {
                totals[y] = NONE;
            }
            for (int t = 0; t < MOST_QUARTERS; t++) {
                printed[t] = NONE;
            }
        }

        void becomes(Figures other) {
            System.arraycopy(other.indicators, 0, indicators, 0, MOST_QUARTERS);
            System.arraycopy(other.totals, 0, totals, 0, YEARS);
            System.arraycopy(other.printed, 0, printed, 0, MOST_QUARTERS);
            quarters = other.quarters;
            frozen = other.frozen;
            limit = other.limit;
            shape = other.shape;
        }

        boolean has(int t) {
            return within(t, 0, quarters - 1);
        }

        boolean isPrinted(int t) {
            return printed[t] != NONE;
        }

        boolean isFrozen(int t) {
            return (frozen >> t & 1) == 1;
        }

        int adds(int i) {
            if (!within(i, 1, MOST_INDICATOR)) {
                return BAD;
            }
            if (quarters >= MOST_QUARTERS) {
                return FULL;
            }
            indicators[quarters] = i;
            quarters++;
            return quarters - 1;
        }

        int reindicates(int t, int i) {
            if (!has(t) || !within(i, 1, MOST_INDICATOR)) {
                return BAD;
            }
            int was = indicators[t];
            indicators[t] = i;
            return was;
        }

        int tells(int y, int v) {
            if (!isYear(y) || !within(v, 0, MOST_TOTAL)) {
                return BAD;
            }
            if (quarters < IN_YEAR * (y + 1)) {
                return NO;
            }
            int was = totals[y];
            totals[y] = v;
            return was;
        }

        int untells(int y) {
            if (!isYear(y)) {
                return BAD;
            }
            if (totals[y] == NONE) {
                return NO;
            }
            int was = totals[y];
            totals[y] = NONE;
            return was;
        }

        int ices(int t, int on) {
            if (!has(t) || !within(on, 0, 1)) {
                return BAD;
            }
            if (!isPrinted(t)) {
                return NO;
            }
            int bit = 1 << t;
            frozen = on == 1 ? frozen | bit : frozen & ~bit;
            return Integer.bitCount(frozen);
        }

        int bounds(int v) {
            if (v != NONE && !within(v, 0, MOST_LIMIT)) {
                return BAD;
            }
            int was = limit;
            limit = v;
            return was;
        }

        int shapes(int k) {
            if (!isForm(k)) {
                return BAD;
            }
            int was = shape;
            shape = k;
            return was;
        }

        int unprints() {
            int were = printedOnes();
            for (int t = 0; t < MOST_QUARTERS; t++) {
                printed[t] = NONE;
            }
            frozen = 0;
            return were;
        }

        int printedOnes() {
            int ones = 0;
            for (int t = 0; t < quarters; t++) {
                ones += isPrinted(t) ? 1 : 0;
            }
            return ones;
        }

        int toldOfQuarter(int t, int what) {
            switch (what) {
                case 0: return indicators[t];
                case 1: return printed[t];
                case 2: return isFrozen(t) ? 1 : 0;
                default: return t / IN_YEAR;
            }
        }

        int toldOfYear(int y, int what) {
            if (what == 1) {
                return indicated(y);
            }
            if (what == 0 || totals[y] == NONE) {
                return totals[y];
            }
            return gap(y) + 1000;
        }

        int toldOfAll(int what) {
            switch (what) {
                case 0: return quarters;
                case 1: return yearsTold();
                case 2: return printedOnes();
                case 3: return frozen;
                case 4: return limit;
                default: return shape;
            }
        }

        int yearsTold() {
            int years = 0;
            for (int y = 0; y < YEARS; y++) {
                years += totals[y] != NONE ? 1 : 0;
            }
            return years;
        }

        int indicated(int y) {
            int sum = 0;
            for (int t = IN_YEAR * y; t < IN_YEAR * (y + 1) && t < quarters; t++) {
                sum += indicators[t];
            }
            return sum;
        }

        int gap(int y) {
            return totals[y] - indicated(y);
        }

        /** What QUARTER t has when its YEAR's TOTAL is SHARED OUT. */
        int share(int t) {
            int y = t / IN_YEAR;
            int sum = indicated(y);
            if (totals[y] == NONE || sum <= 0) {
                return indicators[t];
            }
            int mine = totals[y] * indicators[t] % sum;
            int left = totals[y];
            int ahead = 0;
            for (int u = IN_YEAR * y; u < IN_YEAR * (y + 1) && u < quarters; u++) {
                int its = totals[y] * indicators[u] % sum;
                left -= totals[y] * indicators[u] / sum;
                ahead += its > mine || its == mine && u < t ? 1 : 0;
            }
            return totals[y] * indicators[t] / sum + (ahead < left ? 1 : 0);
        }

        long movement(int[] x, int k) {
            long sum = 0;
            for (int t = 1; t < quarters && t < x.length; t++) {
                long step = k == DIFFERENCES
                        ? x[t] - indicators[t] - (x[t - 1] - indicators[t - 1])
                        : x[t] * indicators[t - 1] - x[t - 1] * indicators[t];
                sum += step * step;
            }
            return sum;
        }
    }

    /** The STATES to go back to, in a ring with one place more, for the one that is held while a call is tried. */
    private static final class Past {
        private final Figures[] ring = new Figures[MOST_STATES + 1];
        private int top = 0;
        int states = 0;

        Past() {
            for (int k = 0; k <= MOST_STATES; k++) {
                ring[k] = new Figures();
            }
        }

        void holds(Figures figures) {
            ring[top].becomes(figures);
        }

        void restores(Figures figures) {
            figures.becomes(ring[top]);
        }

        void keeps() {
            top = top == MOST_STATES ? 0 : top + 1;
            states = Math.min(MOST_STATES, states + 1);
        }

        void returns(Figures figures) {
            if (states > 0) {
                top = top == 0 ? MOST_STATES : top - 1;
                states--;
                figures.becomes(ring[top]);
            }
        }
    }

    /**
     * How far each QUARTER may go (d, from low to high), and what may be left of its YEAR's GAP for those behind it
     * (from leftLow to leftHigh; a YEAR without TOTAL is not bound, and always has 0 left).
     */
    private static final class Bounds {
        final int[] low = new int[MOST_QUARTERS];
        final int[] high = new int[MOST_QUARTERS];
        final int[] leftLow = new int[MOST_QUARTERS];
        final int[] leftHigh = new int[MOST_QUARTERS];
        final boolean[] bound = new boolean[YEARS];
        final int[] gaps = new int[YEARS];
        int quarters = 0;

        /** Whether some ROW MEETS with this limit (NONE: none), were the TOTAL of that year (NONE: none) not told. */
        boolean lays(Figures figures, int limit, int untoldYear) {
            quarters = figures.quarters;
            boolean meets = true;
            for (int t = 0; t < quarters; t++) {
                laysQuarter(figures, limit, t);
                meets = meets && low[t] <= high[t];
            }
            for (int y = 0; y < YEARS; y++) {
                bound[y] = y != untoldYear && figures.totals[y] != NONE;
                gaps[y] = bound[y] ? figures.gap(y) : 0;
                meets = meets && laysYear(y);
            }
            return meets;
        }

        private void laysQuarter(Figures figures, int limit, int t) {
            low[t] = -REACH;
            high[t] = REACH;
            int room = figures.isFrozen(t) ? 0 : limit;
            if (figures.isPrinted(t) && room != NONE) {
                int d = figures.printed[t] - REACH - figures.indicators[t];
                low[t] = Math.max(low[t], d - room);
                high[t] = Math.min(high[t], d + room);
            }
        }

        /** Each d may be any of low to high, so the GAP is met just if it lies from the lows' sum to the highs' sum. */
        private boolean laysYear(int y) {
            int begin = IN_YEAR * y;
            int restLow = 0;
            int restHigh = 0;
            for (int t = begin; t < begin + IN_YEAR; t++) {
                restLow += low[t];
                restHigh += high[t];
            }
            boolean meets = !bound[y] || restLow <= gaps[y] && gaps[y] <= restHigh;
            int aheadLow = gaps[y];
            int aheadHigh = gaps[y];
            for (int t = begin; t < begin + IN_YEAR; t++) {
                restLow -= low[t];
                restHigh -= high[t];
                aheadLow = bound[y] ? Math.max(restLow, aheadLow - high[t]) : 0;
                aheadHigh = bound[y] ? Math.min(restHigh, aheadHigh - low[t]) : 0;
                leftLow[t] = aheadLow;
                leftHigh[t] = aheadHigh;
            }
            return meets;
        }

        boolean isBound(int t) {
            return bound[t / IN_YEAR];
        }

        /** What is left of the GAP ahead of QUARTER t, if that much is left behind the one ahead of it. */
        int leftAhead(int t, int left) {
            return t % IN_YEAR == 0 ? gaps[t / IN_YEAR] : left;
        }

        /** The least that can be left behind QUARTER t with that d. */
        int leastLeft(int t, int d) {
            if (!isBound(t)) {
                return 0;
            }
            int ahead = t > 0 ? leftAhead(t, leftLow[t - 1]) : gaps[0];
            return Math.max(leftLow[t], ahead - d);
        }

        int mostLeft(int t, int d) {
            if (!isBound(t)) {
                return 0;
            }
            int ahead = t > 0 ? leftAhead(t, leftHigh[t - 1]) : gaps[0];
            return Math.min(leftHigh[t], ahead - d);
        }
    }

    /**
     * Finds BENT from the last QUARTER to the first. At a spot (a QUARTER t, what is left of its YEAR's GAP behind t,
     * d of t) stand the least cost of all QUARTERS behind t and how many ROWS of these have it. A cost is MOVED and,
     * in its lowest bits, AWAY.
     */
    private static final class Bender {
        private final Bounds bounds = new Bounds();
        private final long[] costs = new long[YEARS * SPOTS_IN_YEAR];
        private final int[] ways = new int[YEARS * SPOTS_IN_YEAR];
        private final long[] stepCosts = new long[STEPS];
        private long bestCost = 0;
        private int bestWays = 0;
        private int bestStep = 0;
        private boolean known = false;
        private boolean there = false;
        /** BENT, if it is there, and how many ROWS are as good. */
        final int[] row = new int[MOST_QUARTERS];
        int rows = 0;

        void forgets() {
            known = false;
        }

        boolean meetsWithin(Figures figures, int limit) {
            return bounds.lays(figures, limit, NONE);
        }

        /** Whether there is BENT; it is found once, and kept until the figures change. */
        boolean bends(Figures figures) {
            if (!known) {
                known = true;
                there = bounds.lays(figures, figures.limit, NONE);
                if (there) {
                    fills(figures);
                    rows = bestWays;
                    traces(figures);
                }
            }
            return there;
        }

        /** MOVED of BENT were that TOTAL not told; BENT itself stays as it was found. */
        long leastWithout(Figures figures, int y) {
            if (!bounds.lays(figures, figures.limit, y)) {
                return 0;
            }
            fills(figures);
            return bestCost >> AWAY_BITS;
        }

        /** Fills the spots, from the last QUARTER on; the best step is then that of QUARTER 0. */
        private void fills(Figures figures) {
            for (int t = figures.quarters - 1; t >= 0; t--) {
                for (int d = bounds.low[t]; d <= bounds.high[t]; d++) {
                    weighsSteps(figures, t + 1, d);
                    int to = bounds.mostLeft(t, d);
                    for (int left = bounds.leastLeft(t, d); left <= to; left++) {
                        choosesStep(t + 1, left);
                        keepsBest(spot(t, left, d));
                    }
                }
            }
            weighsSteps(figures, 0, 0);
            choosesStep(0, 0);
        }

        private void keepsBest(int spot) {
            if (isSpot(spot)) {
                costs[spot] = bestCost;
                ways[spot] = bestWays;
            }
        }

        /** Only the first of the steps that are as good is taken, so BENT is the first of the ROWS that are. */
        private void traces(Figures figures) {
            int left = 0;
            int d = 0;
            for (int t = 0; t < figures.quarters; t++) {
                weighsSteps(figures, t, d);
                choosesStep(t, left);
                d = bestStep;
                left = bounds.isBound(t) ? bounds.leftAhead(t, left) - d : 0;
                row[t] = figures.indicators[t] + d;
            }
        }

        /** The cost of each d of QUARTER u itself, d of the one ahead of it being aheadD. */
        private void weighsSteps(Figures figures, int u, int aheadD) {
            if (u >= figures.quarters) {
                return;
            }
            for (int d = bounds.low[u]; d <= bounds.high[u]; d++) {
                long step = 0;
                if (u > 0) {
                    step = figures.shape == DIFFERENCES
                            ? d - aheadD
                            : d * figures.indicators[u - 1] - aheadD * figures.indicators[u];
                }
                stepCosts[d + REACH] = (step * step << AWAY_BITS) + d * d;
            }
        }

        /** The best d of QUARTER u, so much being left behind the one ahead of it; its steps have been weighed. */
        private void choosesStep(int u, int left) {
            bestCost = 0;
            bestWays = 1;
            bestStep = 0;
            if (u >= bounds.quarters) {
                return;
            }
            boolean bound = bounds.isBound(u);
            int ahead = bounds.leftAhead(u, left);
            int from = bounds.low[u];
            int to = bounds.high[u];
            if (bound) {
                from = Math.max(from, ahead - bounds.leftHigh[u]);
                to = Math.min(to, ahead - bounds.leftLow[u]);
            }
            int spot = spot(u, bound ? ahead - from : 0, from);
            int stride = bound ? 1 - STEPS : 1;
            bestCost = NOWHERE;
            bestWays = 0;
            for (int d = from; d <= to && isSpot(spot); d++) {
                long cost = stepCosts[d + REACH] + costs[spot];
                if (cost < bestCost) {
                    bestCost = cost;
                    bestWays = ways[spot];
                    bestStep = d;
                } else if (cost == bestCost) {
                    bestWays = Math.min(MOST_OTHERS, bestWays + ways[spot]);
                }
                spot += stride;
            }
        }

        private int spot(int t, int left, int d) {
            int begin = SPOTS_IN_YEAR * (t / IN_YEAR) + SPOTS_BEGIN[t % IN_YEAR];
            return begin + (left - bounds.leftLow[t]) * STEPS + d + REACH;
        }

        private boolean isSpot(int spot) {
            return spot >= 0 && spot < costs.length;
        }
    }

    /** THE TEXT, and the ORDERS that were read in it. */
    private static final class Text {
        private final int[] bytes = new int[MOST_BYTES];
        int length = 0;
        /** The shortest ORDER has two bytes. */
        final int[] letters = new int[MOST_BYTES / 2];
        final int[] firsts = new int[MOST_BYTES / 2];
        final int[] seconds = new int[MOST_BYTES / 2];
        int orders = 0;
        private boolean open = false;
        private int numbers = 0;
        private int figuresInNumber = 0;

        int takes(int c) {
            if (length < MOST_BYTES) {
                bytes[length] = c;
                length++;
            }
            return length;
        }

        /** The FAULT; NONE: there is none, and all ORDERS stand in the rows. */
        int reads() {
            orders = 0;
            open = false;
            for (int place = 0; place < length; place++) {
                if (!readsByte(bytes[place])) {
                    return place;
                }
            }
            return open || orders == 0 ? length : NONE;
        }

        private boolean readsByte(int c) {
            if (c == BLANK) {
                figuresInNumber = 0;
                return true;
            }
            if (!open) {
                return opens(c);
            }
            if (c == ';') {
                return closes();
            }
            return within(c, '0', '9') && readsFigure(c - '0');
        }

        private boolean opens(int c) {
            if (numbersOf(c) == NONE || orders >= letters.length) {
                return false;
            }
            letters[orders] = c;
            firsts[orders] = 0;
            seconds[orders] = 0;
            open = true;
            numbers = 0;
            figuresInNumber = 0;
            return true;
        }

        private boolean closes() {
            if (numbers < numbersOf(letters[orders])) {
                return false;
            }
            open = false;
            orders++;
            return true;
        }

        private boolean readsFigure(int v) {
            boolean begins = figuresInNumber == 0;
            if (begins && numbers >= numbersOf(letters[orders]) || figuresInNumber >= MOST_FIGURES) {
                return false;
            }
            numbers += begins ? 1 : 0;
            figuresInNumber++;
            if (numbers == 1) {
                firsts[orders] = 10 * firsts[orders] + v;
            } else {
                seconds[orders] = 10 * seconds[orders] + v;
            }
            return true;
        }

        private static int numbersOf(int letter) {
            switch (letter) {
                case 'o': case 'p': return 0;
                case 'q': case 'n': case 'l': case 'f': return 1;
                case 't': case 'z': return 2;
                default: return NONE;
            }
        }
    }
}
