/** Each promise of the document with ordinary inputs, its edges and wrong inputs; what is due was reckoned by hand. */
public final class PromisesTest {
    private static final int NONE = -1, BAD = -2, NO = -3, FULL = -4;
    private static final int[] OUTSIDE = {Integer.MIN_VALUE, -5, -1, 1000, Integer.MAX_VALUE};
    private static final Check CHECK = new Check("PromisesTest");

    public static void main(String[] args) {
        newObject();
        quarter();
        indicates();
        total();
        untold();
        freezes();
        limits();
        form();
        publishes();
        recalls();
        of();
        year();
        count();
        bent();
        bentByTies();
        bentBelowZero();
        bentByRatios();
        moved();
        revised();
        farthest();
        least();
        price();
        others();
        shared();
        stepped();
        type();
        clear();
        doesOrders();
        doesFaults();
        doesRefusals();
        back();
        told();
        digest();
        CHECK.ends();
    }

    private static void due(String what, long want, long got) {
        CHECK.due(what, want, got);
    }

    private static BentQuarters with(int... indicators) {
        BentQuarters x = new BentQuarters();
        for (int i : indicators) {
            x.quarter(i);
        }
        return x;
    }

    private static BentQuarters twelve(int i) {
        return with(i, i, i, i, i, i, i, i, i, i, i, i);
    }

    private static int tells(BentQuarters x, String text) {
        x.clear();
        for (int k = 0; k < text.length(); k++) {
            x.type(text.charAt(k));
        }
        return x.does();
    }

    private static void row(String what, BentQuarters x, int... want) {
        for (int t = 0; t < want.length; t++) {
            due(what + ", bent(" + t + ")", want[t] + 8, x.bent(t));
        }
    }

    private static void newObject() {
        BentQuarters x = new BentQuarters();
        due("1: NONE", -1, BentQuarters.NONE);
        due("1: BAD", -2, BentQuarters.BAD);
        due("1: NO", -3, BentQuarters.NO);
        due("1: FULL", -4, BentQuarters.FULL);
        int[] counts = {0, 0, 0, 0, NONE, 0};
        for (int what = 0; what < 6; what++) {
            due("1: count " + what, counts[what], x.count(what));
        }
        for (int what = 0; what < 5; what++) {
            due("1: told " + what, 0, x.told(what));
        }
        for (int y = 0; y < 3; y++) {
            due("1: total", NONE, x.year(y, 0));
            due("1: indicators", 0, x.year(y, 1));
            due("1: gap", NONE, x.year(y, 2));
        }
        due("1: others", 1, x.others());
        due("1: least", 0, x.least());
    }

    private static void quarter() {
        BentQuarters x = new BentQuarters();
        due("2: 1", 0, x.quarter(1));
        due("2: 99", 1, x.quarter(99));
        due("2: 0", BAD, x.quarter(0));
        due("2: 100", BAD, x.quarter(100));
        for (int v : OUTSIDE) {
            due("2: outside", BAD, x.quarter(v));
        }
        due("2: how many", 2, x.count(0));
        due("2: states", 2, x.told(4));
        due("2: indicator", 99, x.of(1, 0));
        for (int t = 2; t < 12; t++) {
            due("2: number", t, x.quarter(t));
        }
        due("2: thirteenth", FULL, x.quarter(5));
        due("2: BAD is ahead of FULL", BAD, x.quarter(100));
        due("2: how often FULL", 1, x.told(2));
        due("2: how often BAD", 8, x.told(0));
        due("2: still twelve", 12, x.count(0));
        x.publishes();
        x.back();
        due("2: a new one is not published", NONE, x.of(11, 1));
    }

    private static void indicates() {
        BentQuarters x = with(10, 20);
        due("3: was", 20, x.indicates(1, 99));
        due("3: now", 99, x.of(1, 0));
        due("3: the other", 10, x.of(0, 0));
        due("3: the same", 99, x.indicates(1, 99));
        due("3: states", 4, x.told(4));
        due("3: no such quarter", BAD, x.indicates(2, 5));
        due("3: 0", BAD, x.indicates(0, 0));
        due("3: 100", BAD, x.indicates(0, 100));
        for (int v : OUTSIDE) {
            due("3: outside t", BAD, x.indicates(v, 5));
            due("3: outside i", BAD, x.indicates(0, v));
        }
        due("3: states still", 4, x.told(4));
        x.publishes();
        x.indicates(1, 50);
        due("3: published stays", 99 + 8, x.of(1, 1));
    }

    private static void total() {
        BentQuarters x = with(10, 10, 10);
        due("4: not all there", NO, x.total(0, 40));
        x.quarter(10);
        due("4: none was", NONE, x.total(0, 0));
        due("4: no refusal", 1, x.told(1));
        due("4: was 0", 0, x.total(0, 999));
        due("4: was 999", 999, x.total(0, 40));
        due("4: now", 40, x.year(0, 0));
        due("4: year 1 not there", NO, x.total(1, 40));
        due("4: year 2 not there", NO, x.total(2, 40));
        due("4: year 3", BAD, x.total(3, 40));
        due("4: 1000", BAD, x.total(0, 1000));
        due("4: BAD is ahead of NO", BAD, x.total(1, 1000));
        for (int v : OUTSIDE) {
            due("4: outside y", BAD, x.total(v, 5));
            due("4: outside v", BAD, x.total(0, v));
        }
        due("4: states", 5, x.told(4));
        for (int t = 4; t < 11; t++) {
            x.quarter(10);
        }
        due("4: year 2 wants one more", NO, x.total(2, 40));
        x.quarter(10);
        due("4: year 2", NONE, x.total(2, 41));
        due("4: year 1", NONE, x.total(1, 42));
        due("4: each by itself", 40 + 42 + 41, x.year(0, 0) + x.year(1, 0) + x.year(2, 0));
    }

    private static void untold() {
        BentQuarters x = with(10, 10, 10, 10);
        due("5: none", NO, x.untold(0));
        x.total(0, 0);
        due("5: was 0", 0, x.untold(0));
        due("5: now", NONE, x.year(0, 0));
        due("5: none again", NO, x.untold(0));
        due("5: year not there", NO, x.untold(2));
        due("5: year 3", BAD, x.untold(3));
        for (int v : OUTSIDE) {
            due("5: outside", BAD, x.untold(v));
        }
        x.back();
        due("5: a state", 0, x.year(0, 0));
    }

    private static void freezes() {
        BentQuarters x = with(10, 10);
        due("6: not published", NO, x.freezes(0, 1));
        due("6: not published, off", NO, x.freezes(0, 0));
        x.publishes();
        due("6: one", 1, x.freezes(1, 1));
        due("6: again", 1, x.freezes(1, 1));
        due("6: two", 2, x.freezes(0, 1));
        due("6: bits", 3, x.count(3));
        due("6: off", 1, x.freezes(1, 0));
        due("6: off again", 1, x.freezes(1, 0));
        due("6: bit", 1, x.count(3));
        due("6: on 2", BAD, x.freezes(0, 2));
        due("6: on -1", BAD, x.freezes(0, -1));
        due("6: no such quarter", BAD, x.freezes(2, 1));
        x.quarter(10);
        due("6: a new one", NO, x.freezes(2, 1));
        due("6: BAD is ahead of NO", BAD, x.freezes(2, 2));
        for (int v : OUTSIDE) {
            due("6: outside t", BAD, x.freezes(v, 1));
            due("6: outside on", BAD, x.freezes(0, v));
        }
        due("6: states", 5, x.told(4));
        x.indicates(0, 14);
        row("6: stays as published", x, 10);
        x.freezes(0, 0);
        row("6: free again", x, 14, 10, 10);
    }

    private static void limits() {
        BentQuarters x = with(10);
        due("7: none was", NONE, x.limits(0));
        due("7: was 0", 0, x.limits(24));
        due("7: was 24", 24, x.limits(NONE));
        due("7: now none", NONE, x.count(4));
        due("7: no refusals", 0, x.told(0) + x.told(1) + x.told(2));
        due("7: 25", BAD, x.limits(25));
        due("7: -2", BAD, x.limits(-2));
        due("7: far", BAD, x.limits(Integer.MAX_VALUE));
        due("7: far down", BAD, x.limits(Integer.MIN_VALUE));
        due("7: states", 4, x.told(4));
        x.publishes();
        x.indicates(0, 13);
        x.limits(2);
        row("7: no more than 2 away", x, 12);
        x.limits(0);
        row("7: not away at all", x, 10);
        x.limits(NONE);
        row("7: none", x, 13);
        x.indicates(0, 30);
        x.limits(11);
        due("7: 8 from 30 is 12 away", NO, x.bent(0));
        x.limits(12);
        row("7: 12 will do", x, 22);
        x.quarter(40);
        x.limits(24);
        row("7: one that is not published is free", x, 30, 40);
    }

    private static void form() {
        BentQuarters x = with(10);
        due("8: at first", 0, x.form(1));
        due("8: then", 1, x.form(1));
        due("8: now", 1, x.count(5));
        due("8: back to 0", 1, x.form(0));
        due("8: 2", BAD, x.form(2));
        for (int v : OUTSIDE) {
            due("8: outside", BAD, x.form(v));
        }
        due("8: states", 4, x.told(4));
    }

    private static void publishes() {
        BentQuarters x = new BentQuarters();
        due("9: no quarters", 0, x.publishes());
        due("9: a state", 1, x.told(4));
        for (int t = 0; t < 4; t++) {
            x.quarter(10);
        }
        x.total(0, 44);
        due("9: four", 4, x.publishes());
        due("9: value and 8", 19, x.of(3, 1));
        x.quarter(10);
        due("9: count", 4, x.count(2));
        x.total(0, 48);
        due("9: five", 5, x.publishes());
        due("9: anew", 20, x.of(3, 1));
        due("9: the fifth", 20, x.of(4, 1));
        x.freezes(0, 1);
        x.total(0, 73);
        due("9: no bent", NO, x.publishes());
        due("9: as it was", 20, x.of(3, 1));
        due("9: how often NO", 1, x.told(1));
        x.total(0, 52);
        due("9: with a frozen one", 5, x.publishes());
        due("9: frozen one", 20, x.of(0, 1));
        due("9: it stays frozen", 1, x.count(3));
    }

    private static void recalls() {
        BentQuarters x = with(10, 11);
        due("10: none was", 0, x.recalls());
        due("10: a state all the same", 3, x.told(4));
        x.publishes();
        x.freezes(1, 1);
        x.quarter(12);
        due("10: two", 2, x.recalls());
        due("10: none", 0, x.count(2));
        due("10: none frozen", 0, x.count(3));
        due("10: not published", NONE, x.of(0, 1));
        due("10: nothing to freeze", NO, x.freezes(1, 1));
        x.back();
        due("10: back", 2, x.count(2));
        due("10: frozen back", 2, x.count(3));
    }

    private static void of() {
        BentQuarters x = twelve(7);
        x.publishes();
        x.freezes(11, 1);
        due("11: indicator", 7, x.of(11, 0));
        due("11: published", 15, x.of(11, 1));
        due("11: frozen", 1, x.of(11, 2));
        due("11: not frozen", 0, x.of(10, 2));
        due("11: year 0", 0, x.of(3, 3));
        due("11: year 1", 1, x.of(4, 3));
        due("11: year 2", 2, x.of(11, 3));
        due("11: what 4", BAD, x.of(0, 4));
        due("11: t 12", BAD, x.of(12, 0));
        for (int v : OUTSIDE) {
            due("11: outside t", BAD, x.of(v, 0));
            due("11: outside what", BAD, x.of(0, v));
        }
        due("11: none there", BAD, new BentQuarters().of(0, 0));
        due("11: how often", 12, x.told(0));
        due("11: no states", 5, x.told(4));
    }

    private static void year() {
        BentQuarters x = with(10, 20, 30, 40, 99);
        due("12: together", 100, x.year(0, 1));
        due("12: those there", 99, x.year(1, 1));
        due("12: none there", 0, x.year(2, 1));
        due("12: no gap", NONE, x.year(0, 2));
        x.total(0, 103);
        due("12: total", 103, x.year(0, 0));
        due("12: gap", 1003, x.year(0, 2));
        x.total(0, 0);
        due("12: total 0", 0, x.year(0, 0));
        due("12: gap below", 900, x.year(0, 2));
        due("12: none of year 1", NONE, x.year(1, 0));
        due("12: what 3", BAD, x.year(0, 3));
        due("12: y 3", BAD, x.year(3, 0));
        for (int v : OUTSIDE) {
            due("12: outside y", BAD, x.year(v, 0));
            due("12: outside what", BAD, x.year(0, v));
        }
    }

    private static void count() {
        BentQuarters x = twelve(9);
        x.total(0, 36);
        x.total(2, 40);
        x.publishes();
        x.freezes(0, 1);
        x.freezes(11, 1);
        x.limits(7);
        x.form(1);
        int[] counts = {12, 2, 12, 1 + (1 << 11), 7, 1};
        for (int what = 0; what < 6; what++) {
            due("13: " + what, counts[what], x.count(what));
        }
        due("13: 6", BAD, x.count(6));
        for (int v : OUTSIDE) {
            due("13: outside", BAD, x.count(v));
        }
    }

    private static void bent() {
        BentQuarters x = with(10, 20, 30, 40);
        row("14: as indicators", x, 10, 20, 30, 40);
        x.total(0, 108);
        row("14: two each", x, 12, 22, 32, 42);
        x.total(0, 132);
        row("14: eight each", x, 18, 28, 38, 48);
        x.total(0, 133);
        due("14: too much", NO, x.bent(0));
        x.total(0, 67);
        due("14: too little", NO, x.bent(0));
        due("14: BAD is ahead of NO", BAD, x.bent(4));
        x.total(0, 68);
        row("14: eight less each", x, 2, 12, 22, 32);
        x.quarter(50);
        x.quarter(60);
        row("14: carried on", x, 2, 12, 22, 32, 42, 52);
        for (int v : OUTSIDE) {
            due("14: outside", BAD, x.bent(v));
        }
        due("14: how often NO", 2, x.told(1));
        due("14: how often BAD", 6, x.told(0));
        due("14: none there", BAD, new BentQuarters().bent(0));
    }

    /** MOVED is the same for either end of the year; AWAY is; so the first ROW is that with the lesser x ahead. */
    private static void bentByTies() {
        BentQuarters x = with(10, 10, 10, 10);
        x.total(0, 41);
        row("14: one more goes last", x, 10, 10, 10, 11);
        due("14: or first", 2, x.others());
        x.total(0, 39);
        row("14: one less comes first", x, 9, 10, 10, 10);
        x.total(0, 42);
        row("14: two more go last", x, 10, 10, 11, 11);
        x.total(0, 43);
        row("14: three more go last", x, 10, 11, 11, 11);
        x = twelve(20);
        x.total(1, 84);
        row("14: carried both ways", x, 21, 21, 21, 21, 21, 21, 21, 21, 21, 21, 21, 21);
        x.total(0, 80);
        x.total(2, 80);
        due("14: least away of those moved alike", 2, x.moved(0));
    }

    private static void bentBelowZero() {
        BentQuarters x = with(1, 1, 1, 1);
        x.total(0, 0);
        row("14: nothing", x, 0, 0, 0, 0);
        x.publishes();
        due("14: 0 and 8", 8, x.of(0, 1));
        x.freezes(0, 1);
        x.total(0, 24);
        // d is -1, 5, 8, 8: 36 + 9 is less than 49 + 1 + 1, and d is never 9
        row("14: frozen at 0", x, 0, 6, 9, 9);
        x.recalls();
        x.total(0, 36);
        x.publishes();
        x.freezes(3, 1);
        x.total(0, 0);
        // d is -7, -5, 0, 8: 4 + 25 + 64
        row("14: below 0", x, -6, -4, 1, 9);
        due("14: below 0 is told and 8", 2, x.bent(0));
        x.publishes();
        due("14: below 0 is published", 2, x.of(0, 1));
    }

    private static void bentByRatios() {
        BentQuarters x = with(10, 20, 30, 40);
        x.form(1);
        x.total(0, 110);
        row("14: by a tenth", x, 11, 22, 33, 44);
        due("14: not moved", 0, x.moved(1));
        due("14: moved by differences", 3, x.moved(0));
        x.total(0, 120);
        row("14: by a fifth", x, 12, 24, 36, 48);
        x.form(0);
        row("14: by differences", x, 15, 25, 35, 45);
    }

    private static void moved() {
        BentQuarters x = with(10, 20, 30, 40);
        x.publishes();
        x.freezes(0, 1);
        x.freezes(3, 1);
        x.total(0, 104);
        row("15: in the middle", x, 10, 22, 32, 40);
        due("15: differences", 8, x.moved(0));
        // 22*10 - 10*20 = 20, 32*20 - 22*30 = -20, 40*30 - 32*40 = -80
        due("15: ratios", 400 + 400 + 6400, x.moved(1));
        due("15: form 2", BAD, x.moved(2));
        for (int v : OUTSIDE) {
            due("15: outside", BAD, x.moved(v));
        }
        x.total(0, 999);
        due("15: none", NO, x.moved(0));
        due("15: BAD is ahead of NO", BAD, x.moved(2));
        due("15: one quarter", 0, with(9).moved(1));
        due("15: no quarters", 0, new BentQuarters().moved(0));
    }

    private static void revised() {
        BentQuarters x = with(10, 10);
        due("16: nothing published", NO, x.revised(0));
        x.publishes();
        due("16: as it was", 0, x.revised(0));
        x.indicates(0, 13);
        x.indicates(1, 6);
        due("16: up", 3, x.revised(0));
        due("16: down", 4, x.revised(1));
        x.quarter(10);
        due("16: not published", NO, x.revised(2));
        due("16: no such quarter", BAD, x.revised(3));
        for (int v : OUTSIDE) {
            due("16: outside", BAD, x.revised(v));
        }
        x.freezes(0, 1);
        x.indicates(0, 50);
        due("16: no bent", NO, x.revised(1));
        due("16: BAD is ahead of NO", BAD, x.revised(3));
        due("16: how often NO", 3, x.told(1));
    }

    private static void farthest() {
        BentQuarters x = new BentQuarters();
        due("17: no quarters", NONE, x.farthest());
        x = with(10, 10, 10);
        due("17: nothing published", NONE, x.farthest());
        due("17: that is no refusal", 0, x.told(1));
        x.publishes();
        due("17: all alike", 0, x.farthest());
        x.indicates(1, 12);
        x.indicates(2, 8);
        due("17: the first of like ones", 1, x.farthest());
        x.indicates(2, 7);
        due("17: the farthest", 2, x.farthest());
        x.quarter(99);
        due("17: of those published", 2, x.farthest());
        x.freezes(0, 1);
        x.indicates(0, 30);
        due("17: no bent", NO, x.farthest());
        due("17: how often NO", 1, x.told(1));
        x = with(10, 10, 10, 10);
        x.total(0, 999);
        due("17: no bent and nothing published", NO, x.farthest());
    }

    private static void least() {
        BentQuarters x = with(10, 10, 10, 10);
        due("18: nothing published", 0, x.least());
        x.total(0, 73);
        due("18: total too great", NONE, x.least());
        due("18: that is no refusal", 0, x.told(1));
        x.total(0, 40);
        x.publishes();
        x.total(0, 45);
        due("18: two", 2, x.least());
        x.limits(0);
        due("18: whatever LIMIT is", 2, x.least());
        x.freezes(0, 1);
        x.total(0, 49);
        due("18: three, one frozen", 3, x.least());
        x.total(0, 47);
        due("18: rounded up", 3, x.least());
        x.total(0, 64);
        due("18: eight", 8, x.least());
        x.total(0, 65);
        due("18: none", NONE, x.least());
        x = with(10);
        x.publishes();
        x.indicates(0, 42);
        due("18: 24", 24, x.least());
        x.indicates(0, 43);
        due("18: 25 is none", NONE, x.least());
        due("18: there is bent all the same", 43 + 8, x.bent(0));
    }

    private static void price() {
        BentQuarters x = with(10, 10, 10, 10, 10, 10, 10, 10);
        due("19: no total", NO, x.price(0));
        x.total(0, 40);
        x.total(1, 48);
        due("19: year 0", x.moved(0), x.price(0));
        due("19: year 1", x.moved(0), x.price(1));
        due("19: moved", 3, x.moved(0));
        row("19: bent stays", x, 9, 10, 10, 11, 12, 12, 12, 12);
        due("19: year 2", NO, x.price(2));
        due("19: year 3", BAD, x.price(3));
        for (int v : OUTSIDE) {
            due("19: outside", BAD, x.price(v));
        }
        x.publishes();
        x.freezes(0, 1);
        x.total(1, 52);
        long with = x.moved(0);
        long price = x.price(1);
        x.untold(1);
        due("19: without", with - x.moved(0), price);
        x.back();
        x.form(1);
        with = x.moved(1);
        price = x.price(0);
        x.untold(0);
        due("19: without, by ratios", with - x.moved(1), price);
        x.back();
        x.total(0, 0);
        due("19: no bent", NO, x.price(1));
    }

    private static void others() {
        due("20: itself", 1, with(10, 10).others());
        BentQuarters x = with(10, 10, 10, 10);
        x.total(0, 40);
        due("20: one", 1, x.others());
        x.total(0, 41);
        due("20: two", 2, x.others());
        x.publishes();
        x.freezes(0, 1);
        due("20: frozen", 1, x.others());
        x.total(0, 999);
        due("20: none", 0, x.others());
        due("20: that is no refusal", 0, x.told(0) + x.told(1) + x.told(2));
    }

    private static void shared() {
        BentQuarters x = with(10, 20, 30, 40, 9);
        due("21: as indicator", 10, x.shared(0));
        x.total(0, 50);
        due("21: half", 5, x.shared(0));
        due("21: half", 20, x.shared(3));
        due("21: no total", 9, x.shared(4));
        x.total(0, 999);
        // 99.9, 199.8, 299.7, 399.6: three are left
        int[] want = {100, 200, 300, 399};
        for (int t = 0; t < 4; t++) {
            due("21: greatest remainders " + t, want[t], x.shared(t));
        }
        x.total(0, 0);
        due("21: nothing", 0, x.shared(3));
        x = with(10, 10, 10, 10);
        x.total(0, 42);
        due("21: the first of like ones", 11, x.shared(0));
        due("21: the second", 11, x.shared(1));
        due("21: not the third", 10, x.shared(2));
        due("21: nor the fourth", 10, x.shared(3));
        x = with(1, 1, 1, 99);
        x.total(0, 999);
        // 9 and 81 of 102 thrice, 969 and 63 of 102
        due("21: far away", 969, x.shared(3));
        due("21: the first", 10, x.shared(0));
        due("21: the third", 10, x.shared(2));
        due("21: there is no bent", NO, x.bent(3));
        due("21: no such quarter", BAD, x.shared(4));
        for (int v : OUTSIDE) {
            due("21: outside", BAD, x.shared(v));
        }
    }

    private static void stepped() {
        BentQuarters x = with(1, 1, 1, 99);
        x.total(0, 999);
        // 10, 10, 10, 969: d is 9, 9, 9, 870
        due("22: differences", 861L * 861, x.stepped(0));
        // 969 - 10 * 99
        due("22: ratios", 21L * 21, x.stepped(1));
        due("22: form 2", BAD, x.stepped(2));
        for (int v : OUTSIDE) {
            due("22: outside", BAD, x.stepped(v));
        }
        x = with(99, 99, 99, 99, 99, 1, 1, 1);
        x.total(0, 0);
        x.total(1, 999);
        // 969 * 99 - 0, 10 * 99 - 969
        due("22: beyond an int", 95931L * 95931 + 21L * 21, x.stepped(1));
        due("22: no quarters", 0, new BentQuarters().stepped(0));
        due("22: as indicators", 0, with(3, 50, 9).stepped(1));
    }

    private static void type() {
        BentQuarters x = new BentQuarters();
        due("23: 0", 1, x.type(0));
        due("23: 127", 2, x.type(127));
        due("23: 128", BAD, x.type(128));
        for (int v : OUTSIDE) {
            due("23: outside", BAD, x.type(v));
        }
        for (int k = 3; k <= 120; k++) {
            due("23: so many", k, x.type(';'));
        }
        due("23: full", FULL, x.type('q'));
        due("23: BAD is ahead of FULL", BAD, x.type(128));
        due("23: bytes", 120, x.told(3));
        due("23: no states", 0, x.told(4));
    }

    private static void clear() {
        BentQuarters x = new BentQuarters();
        due("24: empty", 0, x.clear());
        x.type('q');
        x.type('5');
        due("24: two", 2, x.clear());
        due("24: none", 0, x.told(3));
        due("24: first again", 1, x.type('p'));
        due("24: no states", 0, x.told(4));
    }

    private static void doesOrders() {
        BentQuarters x = new BentQuarters();
        due("25: all orders", 8, tells(x, "q10;q 11 ; q012;  q13;t0 50;p;z 3 1;l24;"));
        due("25: one state", 1, x.told(4));
        due("25: text stays", 40, x.told(3));
        due("25: 012", 12, x.of(2, 0));
        due("25: total", 50, x.year(0, 0));
        due("25: published", 4, x.count(2));
        due("25: frozen", 8, x.count(3));
        due("25: limit", 24, x.count(4));
        due("25: an order that is refused ends all", -1000 - 6, tells(x, "q10;q11;q12;q13;f1;f0;z7 1;"));
        due("25: nothing done", 4, x.count(0));
        due("25: o, f, n", 4, tells(x, " o ; f 1 ; n 0 ; z 3 0 ; "));
        due("25: no limit", NONE, x.count(4));
        due("25: form", 1, x.count(5));
        due("25: no total", NONE, x.year(0, 0));
        due("25: not frozen", 0, x.count(3));
        due("25: nothing counts", 0, x.told(0) + x.told(1) + x.told(2));
        due("25: sixty", 60, tells(x, "p;".repeat(60)));
        due("25: p sees what was done ahead of it", 4, tells(x, "o;f0;t0 54;p;"));
        due("25: p", 12 + 8, x.of(0, 1));
        due("25: back in one", 3, x.back());
        due("25: back", 10 + 8, x.of(0, 1));
    }

    private static void doesFaults() {
        String[] texts = {"", "   ", "q", "q1", "q1 ", ";", "q;", "q 1;;", "q1;x", "Q1;", "q1234;", "q12 3;", "q1 2;",
            "t1;", "t12;", "t1234 5;", "t1 2345;", "t1 2 3;", "o1;", "p 1;", "o ;p", "q1;t", "q-1;", "q1,", "l;", "z1 ;",
            "n1 1;", "f1 0;", "q1; q", "q1;  ", "5;", "qq1;", "q1q", "q\t1;", "t0  1 ;", "q100;  ;", "t1", "t 1 2 "};
        int[] faults = {0, 3, 1, 2, 3, 0, 1, 4, 3, 0, 4, 4, 3,
            2, 3, 4, 6, 5, 1, 2, 4, 4, 1, 2, 1, 3,
            3, 3, 5, NONE, 0, 1, 2, 1, NONE, 7, 2, 6};
        for (int k = 0; k < texts.length; k++) {
            BentQuarters x = with(10, 10, 10, 10);
            int want = faults[k] == NONE ? 1 : -10 - faults[k];
            due("25: '" + texts[k] + "'", want, tells(x, texts[k]));
            due("25: states of '" + texts[k] + "'", want == 1 ? 5 : 4, x.told(4));
            due("25: refusals of '" + texts[k] + "'", 0, x.told(0) + x.told(1) + x.told(2));
        }
        BentQuarters x = new BentQuarters();
        due("25: a fault at the end undoes nothing done", -10 - 8, tells(x, "q10;q11;x"));
        due("25: nothing done", 0, x.count(0));
        due("25: a fault comes ahead of a refusal", -10 - 5, tells(x, "q100;x"));
        due("25: 120 bytes too early", -10 - 120, tells(x, " ".repeat(119) + "q"));
        due("25: 120 blanks", -10 - 120, tells(x, " ".repeat(120)));
        for (int c = 0; c < 128; c++) {
            x.clear();
            x.type(c);
            boolean stands = c == ' ' || "qtnzlofp".indexOf(c) >= 0;
            due("25: byte " + c, stands ? -11 : -10, x.does());
        }
    }

    private static void doesRefusals() {
        String[] texts = {"q0;", "q100;", "t0 1;", "t3 1;", "t0 999;n1;", "n0;", "z0 1;", "l25;", "f2;", "p;z0 2;",
            "p;z4 1;", "p;l0;q50;q50;q50;q50;t1 999;p;", "q1;q1;q1;q1;q1;q1;q1;q1;q1;"};
        int[] orders = {0, 0, NONE, 0, 1, 0, 0, 0, 0, 1,
            1, 7, 8};
        for (int k = 0; k < texts.length; k++) {
            BentQuarters x = with(10, 10, 10, 10);
            long before = x.digest();
            int had = tells(x, texts[k]);
            due("25: " + texts[k], orders[k] == NONE ? 1 : -1000 - orders[k], had);
            x.clear();
            if (orders[k] != NONE) {
                due("25: nothing is other by " + texts[k], before, x.digest());
            }
        }
    }

    private static void back() {
        BentQuarters x = new BentQuarters();
        due("26: none", NO, x.back());
        due("26: how often", 1, x.told(1));
        for (int t = 0; t < 8; t++) {
            x.quarter(10);
        }
        due("26: five at most", 5, x.told(4));
        x.type('p');
        x.quarter(0);
        for (int k = 4; k >= 0; k--) {
            due("26: can be yet", k, x.back());
            due("26: quarters", 3 + k, x.count(0));
        }
        due("26: none left", NO, x.back());
        due("26: the text stays", 1, x.told(3));
        due("26: refusals stay", 1, x.told(0));
        x.quarter(50);
        x.quarter(60);
        due("26: one of two", 1, x.back());
        due("26: the first of them", 4, x.count(0));
        due("26: the other", 0, x.back());
        x = with(10, 10, 10, 10);
        x.total(0, 44);
        x.publishes();
        x.freezes(0, 1);
        x.limits(3);
        x.form(1);
        x.total(0, 50);
        x.bent(0);
        x.back();
        due("26: bent as it was", 19, x.bent(0));
        due("26: total", 44, x.year(0, 0));
        due("26: form", 1, x.count(5));
        x.back();
        due("26: form back", 0, x.count(5));
        x.back();
        due("26: limit back", NONE, x.count(4));
        x.back();
        due("26: frozen back", 0, x.count(3));
        x.back();
        due("26: published back", 0, x.count(2));
    }

    private static void told() {
        BentQuarters x = new BentQuarters();
        x.quarter(0);
        x.form(7);
        x.untold(0);
        due("27: BAD", 2, x.told(0));
        due("27: NO", 1, x.told(1));
        due("27: FULL", 0, x.told(2));
        due("27: 5", BAD, x.told(5));
        due("27: itself counts", 3, x.told(0));
        for (int v : OUTSIDE) {
            due("27: outside", BAD, x.told(v));
        }
        due("27: all", 8, x.told(0));
        x.type(32);
        x.limits(3);
        due("27: bytes", 1, x.told(3));
        due("27: states", 1, x.told(4));
        for (int k = 0; k < 12; k++) {
            x.quarter(5);
        }
        x.quarter(5);
        due("27: FULL now", 1, x.told(2));
    }

    private static long fold(long... values) {
        long h = 1980;
        for (long v : values) {
            h = 31 * h + v;
        }
        return h;
    }

    private static void digest() {
        long[] empty = {0, 0, 0, 0, 0, 0, 0, 0, 0, -1, 0, -1, 0, -1, -1, 0, -1, -1, 0, -1, 1, 0, 0, 0, 0};
        due("28: empty", fold(empty), new BentQuarters().digest());
        BentQuarters x = with(10, 20, 30, 40);
        x.publishes();
        x.freezes(1, 1);
        x.total(0, 104);
        x.limits(1);
        x.quarter(0);
        x.type(32);
        // bent would be 21, 20, .. : no more than 1 away leaves 103 at most
        long[] none = {1, 0, 0, 1, 5, 4, 1, 4, 2, 1, 0,
            10, 18, 0, 0, 10, 20, 28, 1, 0, 21, 30, 38, 0, 0, 31, 40, 48, 0, 0, 42,
            104, 100, 1004, -1, 0, -1, -1, 0, -1, 0, x.stepped(0), x.stepped(1)};
        due("28: without bent", fold(none), x.digest());
        due("28: it counts nothing", fold(none), x.digest());
        x.total(0, 103);
        // 11, 20, 31, 41; 10.3, 20.6, 30.9, 41.2: the two left go to the third and second
        long[] some = {1, 0, 0, 1, 5, 4, 1, 4, 2, 1, 0,
            10, 18, 0, 0, 10, 20, 28, 1, 0, 21, 30, 38, 0, 0, 31, 40, 48, 0, 0, 41,
            103, 100, 1003, -1, 0, -1, -1, 0, -1, 1, 19, 28, 39, 49, x.moved(0), x.moved(1), 1, 100 + 100 + 100};
        due("28: with bent", fold(some), x.digest());
    }
}
