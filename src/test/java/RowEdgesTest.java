/** The edges that the document names of ROWS, BENT and what comes of them (Terms, PUBLISHING, promises 14 to 22). */
public final class RowEdgesTest {
    private static final int NONE = -1, BAD = -2, NO = -3;
    private static final Check CHECK = new Check("RowEdgesTest");
    private static String sentence = "";

    public static void main(String[] args) {
        noMoreThan8Away();
        eightCutsTheLeastMovement();
        eachYearIsItsTotal();
        yearsWithoutTotalAreFree();
        frozenIsAsPublished();
        limitAway();
        limitOfPublishedOnesAlone();
        movedByDifferences();
        movedByRatios();
        movedComesAheadOfAway();
        ofLikeOnesLeastAway();
        ofLikeOnesTheFirst();
        thereMayBeNone();
        allIsPublished();
        publishedFarthestDownAndUp();
        gap();
        leastLimit();
        leastLimitInPlaceOfLimit();
        price();
        priceRefused();
        sharesLeft();
        sharesByRemainders();
        sharesFarAway();
        sharesAskNothingElse();
        steppedBeyondAnInt();
        others();
        bentAnd8();
        movedWhateverForm();
        revisedSize();
        farthest();
        CHECK.ends();
    }

    private static void says(String words) {
        sentence = words;
    }

    private static void due(String what, long want, long got) {
        CHECK.due("'" + sentence + "', " + what, want, got);
    }

    private static void row(String what, String want, BentQuarters x) {
        CHECK.same("'" + sentence + "', " + what, want, Making.row(x));
    }

    private static void shares(String what, String want, BentQuarters x) {
        CHECK.same("'" + sentence + "', " + what, want, Making.shares(x));
    }

    private static BentQuarters published(int... indicators) {
        BentQuarters x = Making.with(indicators);
        x.publishes();
        return x;
    }

    // ---- a ROW

    private static void noMoreThan8Away() {
        says("no more than 8 away from i of t");
        BentQuarters x = published(10);
        x.freezes(0, 1);
        x.indicates(0, 18);
        row("8 below", "10", x);
        x.indicates(0, 19);
        row("9 below", "none", x);
        x.indicates(0, 2);
        row("8 above", "10", x);
        x.indicates(0, 1);
        row("9 above", "none", x);
        x = Making.like(4, 20);
        x.total(0, 80 + 32);
        row("8 each", "28 28 28 28", x);
        x.total(0, 80 + 33);
        row("one more than 8 each", "none", x);
        x.total(0, 80 - 32);
        row("8 less each", "12 12 12 12", x);
        x.total(0, 80 - 33);
        row("one less than 8 less each", "none", x);
        x = Making.like(12, 20);
        x.total(2, 80 + 32);
        row("in the last year", "28 28 28 28 28 28 28 28 28 28 28 28", x);
        x.total(2, 80 + 33);
        row("too much in the last year", "none", x);
    }

    /** d 0, 7, 8, 8 is MOVED 50; 0, 5, 8, 10 would be 38, were 10 not too far. */
    private static void eightCutsTheLeastMovement() {
        says("no more than 8 away from i of t");
        BentQuarters x = published(10, 10, 10, 10);
        x.freezes(0, 1);
        x.total(0, 40 + 23);
        row("23 for three", "10 17 18 18", x);
        due("moved", 50, x.moved(0));
        x.total(0, 40 + 24);
        row("24 for three", "10 18 18 18", x);
        x.total(0, 40 + 25);
        row("25 for three", "none", x);
        x.total(0, 40 - 23);
        row("23 less for three", "10 3 2 2", x);
        x.total(0, 40 - 24);
        row("24 less for three", "10 2 2 2", x);
        x.total(0, 40 - 25);
        row("25 less for three", "none", x);
    }

    private static void eachYearIsItsTotal() {
        says("the x of each YEAR with a TOTAL are it together");
        BentQuarters x = Making.with(10, 12, 14, 12, 11, 13, 15, 13, 12, 14, 16, 14);
        int[][] totals = {{48, 52, 56}, {40, 60, 44}, {0, 52, 56}, {80, 20, 88}, {16, 84, 24}, {49, 51, 57}};
        for (int[] all : totals) {
            for (int y = 0; y < 3; y++) {
                x.total(y, all[y]);
            }
            boolean far = all[0] < 16;
            due("whether there is one", far ? 0 : 1, Math.min(1, x.others()));
            for (int y = 0; y < 3 && !far; y++) {
                int together = 0;
                for (int t = 4 * y; t <= 4 * y + 3; t++) {
                    together += x.bent(t) - 8;
                }
                due("year " + y, all[y], together);
            }
        }
    }

    private static void yearsWithoutTotalAreFree() {
        says("the x of each YEAR with a TOTAL are it together");
        BentQuarters x = Making.like(12, 10);
        x.total(1, 48);
        row("one in the middle", "12 12 12 12 12 12 12 12 12 12 12 12", x);
        x.total(0, 48);
        x.untold(1);
        row("the first", "12 12 12 12 12 12 12 12 12 12 12 12", x);
        x = Making.like(5, 10);
        x.total(0, 36);
        row("a year that is not whole", "9 9 9 9 9", x);
    }

    private static void frozenIsAsPublished() {
        says("each FROZEN one is as PUBLISHED");
        BentQuarters x = published(10, 10, 10, 10);
        x.freezes(1, 1);
        x.freezes(2, 1);
        x.total(0, 44);
        row("two frozen", "12 10 10 12", x);
        x.freezes(0, 1);
        x.total(0, 48);
        row("three frozen", "10 10 10 18", x);
        x.total(0, 49);
        row("three frozen, too much", "none", x);
        x.freezes(3, 1);
        x.total(0, 40);
        row("four frozen", "10 10 10 10", x);
        x.total(0, 41);
        row("four frozen, one too much", "none", x);
        x.total(0, 39);
        row("four frozen, one too little", "none", x);
        x.freezes(3, 0);
        row("three again", "10 10 10 9", x);
    }

    private static void limitAway() {
        says("no more than LIMIT away from that");
        BentQuarters x = published(10, 10, 10, 10);
        int[] limits = {0, 1, 2, 7, 8};
        for (int limit : limits) {
            x.limits(limit);
            for (int way = -1; way <= 1; way += 2) {
                int each = 10 + way * limit;
                x.total(0, 4 * each);
                row("all LIMIT away", each + " " + each + " " + each + " " + each, x);
                x.total(0, 4 * each + way);
                row("one more than LIMIT away", "none", x);
            }
        }
        x = published(50);
        x.limits(24);
        x.indicates(0, 50 + 8 + 24);
        row("24 up", "74", x);
        x.indicates(0, 50 + 8 + 25);
        row("25 up", "none", x);
        x.indicates(0, 50 - 8 - 24);
        row("24 down", "26", x);
        x.indicates(0, 50 - 8 - 25);
        row("25 down", "none", x);
        says("if there is a LIMIT");
        x.limits(NONE);
        row("none", "17", x);
    }

    private static void limitOfPublishedOnesAlone() {
        says("each one that is PUBLISHED is no more than LIMIT away");
        BentQuarters x = published(10, 10, 10);
        x.quarter(10);
        x.limits(0);
        x.total(0, 48);
        row("the last is not published", "10 10 10 18", x);
        x.total(0, 49);
        row("the last goes no farther than 8", "none", x);
        x.total(0, 40);
        x.publishes();
        x.total(0, 41);
        row("now it is", "none", x);
        x.recalls();
        row("recalled, the LIMIT is there yet", "10 10 10 11", x);
    }

    // ---- BENT

    private static void movedByDifferences() {
        says("by DIFFERENCES of (dt - du) * (dt - du)");
        BentQuarters x = published(20, 30, 40, 50, 60);
        for (int t = 0; t < 5; t++) {
            x.freezes(t, 1);
        }
        int[] indicators = {28, 22, 41, 50, 52};
        for (int t = 0; t < 5; t++) {
            x.indicates(t, indicators[t]);
        }
        // d is -8, 8, -1, 0, 8
        due("moved", 16 * 16 + 9 * 9 + 1 + 8 * 8, x.moved(0));
        // 30 * 28 - 20 * 22, 40 * 22 - 30 * 41, 50 * 41 - 40 * 50, 60 * 50 - 50 * 52
        due("moved by ratios", 400 * 400 + 350 * 350 + 50 * 50 + 400 * 400, x.moved(1));
        says("over all QUARTERS t but the first");
        due("no quarters", 0, new BentQuarters().moved(0));
        due("one quarter, far away", 0, oneFarAway().moved(0));
        due("one quarter, far away, by ratios", 0, oneFarAway().moved(1));
    }

    private static BentQuarters oneFarAway() {
        BentQuarters x = published(20);
        x.freezes(0, 1);
        x.indicates(0, 28);
        return x;
    }

    private static void movedByRatios() {
        says("by RATIOS of (xt * iu - xu * it) * (xt * iu - xu * it)");
        BentQuarters x = published(91, 1);
        x.freezes(0, 1);
        x.freezes(1, 1);
        x.indicates(0, 99);
        x.indicates(1, 9);
        // d is -8 and -8: 1 * 99 - 91 * 9
        due("down", 720L * 720, x.moved(1));
        x = published(99, 91);
        x.freezes(0, 1);
        x.freezes(1, 1);
        x.indicates(0, 91);
        x.indicates(1, 99);
        // 91 * 91 - 99 * 99
        due("both ends", 1520L * 1520, x.moved(1));
        x = Making.with(10, 50);
        x.form(1);
        x.publishes();
        x.freezes(0, 1);
        x.indicates(0, 9);
        // d of 0 is 1: 9 * d - 50 is least for 6, and by DIFFERENCES for 1
        row("by ratios", "10 56", x);
        x.form(0);
        row("by differences", "10 51", x);
    }

    private static void movedComesAheadOfAway() {
        says("that which is MOVED least by FORM");
        BentQuarters x = published(10, 10);
        x.freezes(0, 1);
        x.indicates(0, 6);
        row("the other goes along, though it is away then", "10 14", x);
        x.indicates(0, 14);
        row("down, too", "10 6", x);
    }

    private static void ofLikeOnesLeastAway() {
        says("of like ones least AWAY");
        // each shift of all is MOVED as little; the first would be 8 below
        row("one quarter", "10", Making.with(10));
        row("three", "10 20 30", Making.with(10, 20, 30));
        // between d -1 and 2 both 0 and 1 are MOVED 5; 1 is farther away
        BentQuarters x = published(10, 10, 10);
        x.freezes(0, 1);
        x.freezes(2, 1);
        x.indicates(0, 11);
        x.indicates(2, 8);
        row("between -1 and 2", "10 10 10", x);
        due("one alone", 1, x.others());
        // between d 1 and -2 both 0 and -1 are MOVED 5; -1 would be the first
        x.indicates(0, 9);
        x.indicates(2, 12);
        row("between 1 and -2", "10 10 10", x);
        due("one alone", 1, x.others());
    }

    private static void ofLikeOnesTheFirst() {
        says("of like ones the first (by x of QUARTER 0, then of 1, and so on, the lesser ahead)");
        BentQuarters x = Making.like(4, 10);
        x.total(0, 41);
        row("by quarter 0, one more", "10 10 10 11", x);
        x.total(0, 39);
        row("by quarter 0, one less", "9 10 10 10", x);
        x = Making.like(4, 10);
        x.publishes();
        x.freezes(0, 1);
        x.freezes(3, 1);
        x.total(0, 41);
        row("by quarter 1, one more", "10 10 11 10", x);
        x.total(0, 39);
        row("by quarter 1, one less", "10 9 10 10", x);
        x = Making.like(12, 10);
        x.publishes();
        for (int t = 0; t < 12; t++) {
            x.freezes(t, t / 4 == 1 ? 0 : 1);
        }
        x.total(1, 41);
        row("by quarters 4 to 6, one more", "10 10 10 10 10 10 10 11 10 10 10 10", x);
        due("four of them", 4, x.others());
        x.total(1, 39);
        row("by quarter 4, one less", "10 10 10 10 9 10 10 10 10 10 10 10", x);
        due("four of them", 4, x.others());
    }

    private static void thereMayBeNone() {
        says("there may be none");
        BentQuarters x = Making.like(12, 10);
        for (int y = 0; y < 3; y++) {
            x.total(y, 73);
            row("year " + y, "none", x);
            due("bent", NO, x.bent(11));
            x.total(y, 72);
            due("bent", 18 + 8, x.bent(11));
            x.untold(y);
        }
        row("no quarters", "", new BentQuarters());
    }

    // ---- PUBLISHING

    private static void allIsPublished() {
        says("BENT is PUBLISHED, all of it");
        for (int n = 0; n <= 12; n++) {
            BentQuarters x = Making.like(n, 10);
            due("how many", n, x.publishes());
            due("count", n, x.count(2));
            for (int t = 0; t < n; t++) {
                due("quarter " + t, 18, x.of(t, 1));
            }
        }
        BentQuarters x = Making.like(12, 10);
        x.total(2, 44);
        x.publishes();
        due("those of no TOTAL, too", 19, x.of(0, 1));
        x.total(2, 48);
        due("as it was until it is PUBLISHED anew", 19, x.of(11, 1));
        x.publishes();
        due("anew", 20, x.of(11, 1));
    }

    private static void publishedFarthestDownAndUp() {
        says("PUBLISHED (1; NONE: not so, else that and 8)");
        BentQuarters x = Making.with(1, 40, 40, 40);
        due("not so", NONE, x.of(0, 1));
        x.total(0, 121 - 32);
        row("8 below 1", "-7 32 32 32", x);
        due("bent", 1, x.bent(0));
        x.publishes();
        due("-7 and 8", 1, x.of(0, 1));
        x.freezes(0, 1);
        row("frozen below 0", "-7 32 32 32", x);
        x.limits(0);
        row("held below 0", "-7 32 32 32", x);
        x = Making.like(4, 99);
        x.total(0, 396 + 32);
        x.publishes();
        due("107 and 8", 115, x.of(3, 1));
        // x is -1 just once: what is told of it is not NONE
        x = Making.with(7, 40, 40, 40);
        x.total(0, 127 - 32);
        x.publishes();
        due("-1 and 8", 7, x.of(0, 1));
        due("-1 is one that is PUBLISHED", 4, x.count(2));
        due("-1 can be FROZEN", 1, x.freezes(0, 1));
        due("-1 is not REVISED", 0, x.revised(0));
    }

    private static void gap() {
        says("GAP of a YEAR with a TOTAL: TOTAL less its INDICATORS together");
        BentQuarters x = Making.like(12, 99);
        x.total(2, 0);
        due("least of all", 1000 - 396, x.year(2, 2));
        x.total(2, 396);
        due("none", 1000, x.year(2, 2));
        x.total(2, 395);
        due("one below", 999, x.year(2, 2));
        x = Making.like(4, 1);
        x.total(0, 999);
        due("greatest of all", 1000 + 995, x.year(0, 2));
        due("NONE: no TOTAL", NONE, x.year(1, 2));
    }

    private static void leastLimit() {
        says("the least 0 .. 24 with which some ROW MEETS");
        BentQuarters x = published(50);
        int[][] moves = {{50, 0}, {58, 0}, {59, 1}, {42, 0}, {41, 1}, {81, 23}, {82, 24}, {83, NONE}, {99, NONE}, {19, 23},
            {18, 24}, {17, NONE}, {1, NONE}};
        for (int[] move : moves) {
            x.indicates(0, move[0]);
            due("indicator " + move[0], move[1], x.least());
        }
        due("no refusals", 0, x.told(0) + x.told(1) + x.told(2));
        x = published(10, 10, 10, 10);
        int[][] totals = {{40, 0}, {41, 1}, {44, 1}, {45, 2}, {72, 8}, {73, NONE}, {39, 1}, {36, 1}, {35, 2}, {8, 8}, {7, NONE}};
        for (int[] total : totals) {
            x.total(0, total[0]);
            due("total " + total[0], total[1], x.least());
        }
        x.freezes(0, 1);
        x.total(0, 64);
        due("frozen ones stay", 8, x.least());
        x.total(0, 65);
        due("frozen ones stay, none will do", NONE, x.least());
        due("nothing PUBLISHED", 0, Making.like(4, 10).least());
        due("no quarters", 0, new BentQuarters().least());
        x = Making.like(4, 10);
        x.total(0, 73);
        due("nothing PUBLISHED and no ROW", NONE, x.least());
    }

    private static void leastLimitInPlaceOfLimit() {
        says("in place of LIMIT");
        BentQuarters x = published(10, 10, 10, 10);
        x.total(0, 50);
        int[] limits = {NONE, 0, 2, 3, 24};
        for (int limit : limits) {
            x.limits(limit);
            due("LIMIT " + limit, 3, x.least());
            due("LIMIT stays", limit, x.count(4));
            due("whether there is BENT", limit == 0 || limit == 2 ? 0 : 1, Math.min(1, x.others()));
        }
    }

    private static void price() {
        says("PRICE: MOVED of BENT, less MOVED of BENT were that TOTAL not told");
        BentQuarters x = Making.like(12, 10);
        x.total(0, 40);
        due("costs nothing", 0, x.price(0));
        x.total(2, 44);
        // d 0 0 0 0 0 0 0 0 1 1 1 1 is MOVED 1; either by itself is MOVED 0
        due("year 0", 1, x.price(0));
        due("year 2", 1, x.price(2));
        due("year 1 has none", NO, x.price(1));
        due("BENT stays", 1, x.moved(0));
        due("the TOTAL stays", 44, x.year(2, 0));
        x.form(1);
        due("by ratios, each step ten times as much", 100, x.price(2));
        x = published(10, 10, 10, 10);
        x.freezes(0, 1);
        x.freezes(3, 1);
        x.indicates(0, 9);
        // d 1 . . 0: without TOTAL 1 0 0 0 (or 1 1 0 0, farther away); with 41 and more, 1 d d 0
        x.total(0, 40 + 8);
        row("with the TOTAL", "10 14 14 10", x);
        due("less what is MOVED anyhow", 9 + 16 - 1, x.price(0));
        x.freezes(0, 0);
        x.freezes(3, 0);
        x.total(0, 0);
        x.indicates(0, 1);
        x.indicates(1, 1);
        x.indicates(2, 1);
        x.indicates(3, 1);
        due("a TOTAL of 0 is one", 0, x.price(0));
    }

    private static void priceRefused() {
        says("NO: it has no TOTAL, or there is no BENT");
        BentQuarters x = Making.like(8, 10);
        due("no TOTAL", NO, x.price(0));
        x.total(0, 73);
        due("no BENT, though there were one without that TOTAL", NO, x.price(0));
        due("neither", NO, x.price(1));
        x.total(1, 40);
        due("no BENT by another YEAR's TOTAL", NO, x.price(1));
        due("BAD is the first", BAD, x.price(3));
        x.total(0, 72);
        due("BENT again", x.moved(0), x.price(1));
        due("how often NO", 4, x.told(1));
        due("how often BAD", 1, x.told(0));
    }

    // ---- SHARED OUT

    private static void sharesLeft() {
        says("what is left goes 1 each, of like ones the first ahead");
        BentQuarters x = Making.like(4, 10);
        String[] want = {"10 10 10 10", "11 10 10 10", "11 11 10 10", "11 11 11 10", "11 11 11 11"};
        for (int more = 0; more <= 4; more++) {
            x.total(0, 40 + more);
            shares("40 and " + more, want[more], x);
        }
        x.total(0, 0);
        shares("0", "0 0 0 0", x);
        x.total(0, 3);
        shares("3", "1 1 1 0", x);
        x.total(0, 999);
        shares("999", "250 250 250 249", x);
    }

    private static void sharesByRemainders() {
        says("those with the greatest remainders of TOTAL * i by I");
        BentQuarters x = Making.with(1, 2, 3, 4);
        x.total(0, 7);
        // 0.7, 1.4, 2.1, 2.8
        shares("7 by 1 2 3 4", "1 1 2 3", x);
        x.total(0, 9);
        // 0.9, 1.8, 2.7, 3.6
        shares("9 by 1 2 3 4", "1 2 3 3", x);
        x = Making.with(3, 1, 1, 3);
        x.total(0, 4);
        // all have 4 of 8 left
        shares("4 by 3 1 1 3", "2 1 0 1", x);
        x = Making.with(1, 3, 3, 1);
        x.total(0, 4);
        shares("4 by 1 3 3 1", "1 2 1 0", x);
        x = Making.with(1, 2, 2, 1);
        x.total(0, 4);
        // 0.67, 1.33, 1.33, 0.67: the last comes ahead of the second
        shares("4 by 1 2 2 1", "1 1 1 1", x);
        x.total(0, 5);
        // 0.83, 1.67, 1.67, 0.83: the third is not served
        shares("5 by 1 2 2 1", "1 2 1 1", x);
    }

    private static void sharesFarAway() {
        says("it may be far away, FROZEN ones may be otherwise");
        BentQuarters x = published(1, 1, 1, 99);
        x.freezes(3, 1);
        x.limits(0);
        x.total(0, 999);
        // 9 and 81 of 102 thrice, 969 and 63 of 102
        shares("999 by 1 1 1 99", "10 10 10 969", x);
        row("there is no BENT", "none", x);
        x.total(0, 0);
        shares("0 by 1 1 1 99", "0 0 0 0", x);
    }

    private static void sharesAskNothingElse() {
        says("all other QUARTERS as INDICATORS");
        BentQuarters x = Making.with(10, 10, 10, 10, 20, 21, 22, 23, 30, 31);
        shares("no TOTAL", "10 10 10 10 20 21 22 23 30 31", x);
        x.total(1, 172);
        shares("year 1 alone", "10 10 10 10 40 42 44 46 30 31", x);
        x.publishes();
        x.indicates(9, 35);
        shares("not as PUBLISHED", "10 10 10 10 40 42 44 46 30 35", x);
        x.quarter(32);
        x.quarter(33);
        x.total(2, 13);
        // by 130: 3.0, 3.5, 3.2, 3.3
        shares("year 2", "10 10 10 10 40 42 44 46 3 4 3 3", x);
        x.untold(1);
        shares("year 1 no more", "10 10 10 10 20 21 22 23 3 4 3 3", x);
        says("of each YEAR with a TOTAL its QUARTERS' shares");
        x = Making.with(10, 10, 10, 10, 13, 10, 10, 10, 99, 10, 10, 10);
        x.total(0, 42);
        shares("what is left stays in year 0", "11 11 10 10 13 10 10 10 99 10 10 10", x);
        x.total(1, 45);
        // by 43: 13.6, 10.5 thrice
        shares("and in year 1", "11 11 10 10 14 11 10 10 99 10 10 10", x);
        x.total(2, 3);
        // by 129: 2.3, 0.2 thrice
        shares("and in year 2", "11 11 10 10 14 11 10 10 3 0 0 0", x);
    }

    private static void steppedBeyondAnInt() {
        says("MOVED of it as of a ROW");
        BentQuarters x = Making.with(99, 99, 99, 99, 99, 1, 1, 1);
        x.total(0, 0);
        x.total(1, 999);
        // 0 0 0 0 969 10 10 10
        due("by ratios", 95931L * 95931 + 21L * 21, x.stepped(1));
        // d is -99 four times, 870, 9, 9, 9
        due("by differences", 969L * 969 + 861L * 861, x.stepped(0));
        due("no quarters", 0, new BentQuarters().stepped(1));
        due("one quarter", 0, Making.with(99).stepped(1));
        due("as INDICATORS", 0, Making.with(99, 1, 99).stepped(1));
    }

    // ---- OTHERS and what else is asked of BENT

    /**
     * 9999 can not be reached: of two ROWS as good as BENT that are even and odd at the same QUARTERS the ROW in the
     * middle would MEET, be MOVED no more and be less AWAY; so there are never more than 2 to the power of 12.
     */
    private static void others() {
        says("how many ROWS MEET and are MOVED as little as BENT, and AWAY as little (BENT itself, too; none: 0)");
        due("no quarters", 1, new BentQuarters().others());
        due("itself", 1, Making.with(10).others());
        BentQuarters x = Making.like(4, 10);
        x.total(0, 72);
        due("the only ROW", 1, x.others());
        x.total(0, 73);
        due("none", 0, x.others());
        x.total(0, 41);
        due("two", 2, x.others());
        due("no refusals", 0, x.told(0) + x.told(1) + x.told(2));
        // between two FROZEN ones: 1 more at one of three, 1 less at one of four, 1 more at one of three, but not
        // where more and less stand side by side: 36 - 3 - 3
        x = Making.like(12, 10);
        x.publishes();
        x.freezes(0, 1);
        x.freezes(11, 1);
        x.total(0, 41);
        x.total(1, 39);
        x.total(2, 41);
        due("thirty", 30, x.others());
        due("each bump by itself", 6, x.moved(0));
        row("the first of thirty", "10 10 10 11 10 9 10 10 10 10 11 10", x);
        x.form(1);
        due("thirty by ratios", 30, x.others());
        says("MOVED by FORM as little as BENT, and AWAY as little");
        x = Making.with(10, 10);
        due("shifts of all are farther AWAY", 1, x.others());
    }

    private static void bentAnd8() {
        says("x of QUARTER t in BENT, and 8");
        due("as it is", 18, Making.with(10).bent(0));
        due("no such QUARTER", BAD, Making.with(10).bent(1));
        due("-1", BAD, Making.with(10).bent(-1));
        due("the last of twelve", 18, Making.like(12, 10).bent(11));
        due("a thirteenth", BAD, Making.like(12, 10).bent(12));
        BentQuarters x = Making.like(4, 10);
        x.total(0, 73);
        due("no BENT", NO, x.bent(3));
        due("BAD is the first", BAD, x.bent(4));
    }

    private static void movedWhateverForm() {
        says("MOVED of BENT by a FORM k (whatever FORM it is BENT by)");
        BentQuarters x = Making.with(10, 20, 30, 40);
        x.total(0, 110);
        // by DIFFERENCES d is 2 2 3 3: 3 more or 3 less at either end
        row("by differences", "12 22 33 43", x);
        due("differences", 1, x.moved(0));
        // 220 - 240, 660 - 660, 1290 - 1320
        due("ratios", 400 + 0 + 900, x.moved(1));
        x.form(1);
        row("by ratios", "11 22 33 44", x);
        due("differences", 3, x.moved(0));
        due("ratios", 0, x.moved(1));
        due("FORM stays", 1, x.count(5));
    }

    private static void revisedSize() {
        says("How far x of QUARTER t in BENT is from PUBLISHED (size)");
        BentQuarters x = published(50, 50, 50);
        x.indicates(1, 99);
        x.indicates(2, 1);
        due("not at all", 0, x.revised(0));
        due("up", 49, x.revised(1));
        due("down", 49, x.revised(2));
        x.limits(24);
        due("no BENT", NO, x.revised(0));
        x.indicates(1, 82);
        x.indicates(2, 18);
        due("LIMIT up", 24, x.revised(1));
        due("LIMIT down", 24, x.revised(2));
        x.quarter(50);
        due("nothing is PUBLISHED of t", NO, x.revised(3));
        due("BAD is the first", BAD, x.revised(4));
        x.recalls();
        due("nothing is PUBLISHED", NO, x.revised(0));
    }

    private static void farthest() {
        says("of like ones the first; NONE: nothing is PUBLISHED");
        BentQuarters x = Making.like(12, 50);
        due("nothing", NONE, x.farthest());
        due("that is no refusal", 0, x.told(1));
        x.publishes();
        due("none of them REVISED", 0, x.farthest());
        x.indicates(11, 51);
        due("the last", 11, x.farthest());
        x.indicates(5, 49);
        due("down as far, ahead of it", 5, x.farthest());
        x.indicates(11, 52);
        due("the last again", 11, x.farthest());
        x.freezes(0, 1);
        x.indicates(0, 59);
        due("no BENT", NO, x.farthest());
        due("that is one", 1, x.told(1));
        due("no quarters", NONE, new BentQuarters().farthest());
        x = published(50);
        x.quarter(99);
        x.indicates(1, 1);
        due("one that is not PUBLISHED is not REVISED", 0, x.farthest());
    }
}
