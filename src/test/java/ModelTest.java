import java.util.Random;

/** Long runs of calls, each answer held against the model's; and the model's BENT against a trial of all rows. */
public final class ModelTest {
    private static final int RUNS = 60;
    private static final int CALLS = 100;
    private static final int MOST_CALLS = 512;
    private static final Check CHECK = new Check("ModelTest");

    private static final String[] CHANGES = {"quarter", "indicates", "total", "total", "total", "untold", "freezes",
        "freezes", "limits", "form", "publishes", "publishes", "recalls"};
    private static final String[] GETTERS = {"of", "year", "count", "bent", "moved", "revised", "farthest", "least",
        "price", "price", "others", "others", "shared", "stepped", "back", "told", "digest", "digest"};
    private static final int[] WILD = {Integer.MIN_VALUE, -1000, -9, -1, 12, 25, 100, 128, 1000, Integer.MAX_VALUE};

    public static void main(String[] args) {
        for (int seed = 0; seed < RUNS && !CHECK.failed(); seed++) {
            runs(seed);
        }
        for (int seed = 0; seed < 20 && !CHECK.failed(); seed++) {
            longest(seed);
        }
        for (int seed = 0; seed < 400 && !CHECK.failed(); seed++) {
            texts(seed);
        }
        for (int seed = 0; seed < 300 && !CHECK.failed(); seed++) {
            trials(seed);
        }
        ties();
        CHECK.ends();
    }

    private static long ask(BentQuarters x, String name, int a, int b) {
        switch (name) {
            case "quarter": return x.quarter(a);
            case "indicates": return x.indicates(a, b);
            case "total": return x.total(a, b);
            case "untold": return x.untold(a);
            case "freezes": return x.freezes(a, b);
            case "limits": return x.limits(a);
            case "form": return x.form(a);
            case "publishes": return x.publishes();
            case "recalls": return x.recalls();
            case "of": return x.of(a, b);
            case "year": return x.year(a, b);
            case "count": return x.count(a);
            case "bent": return x.bent(a);
            case "moved": return x.moved(a);
            case "revised": return x.revised(a);
            case "farthest": return x.farthest();
            case "least": return x.least();
            case "price": return x.price(a);
            case "others": return x.others();
            case "shared": return x.shared(a);
            case "stepped": return x.stepped(a);
            case "type": return x.type(a);
            case "clear": return x.clear();
            case "does": return x.does();
            case "back": return x.back();
            case "told": return x.told(a);
            default: return x.digest();
        }
    }

    private static void both(String run, BentQuarters x, Model m, String name, int a, int b) {
        CHECK.due(run + ": " + name + "(" + a + ", " + b + ")", m.call(name, a, b), ask(x, name, a, b));
    }

    private static void types(String run, BentQuarters x, Model m, String text) {
        both(run, x, m, "clear", 0, 0);
        for (int k = 0; k < text.length(); k++) {
            both(run, x, m, "type", text.charAt(k), 0);
        }
    }

    private static void runs(int seed) {
        Random random = new Random(seed);
        BentQuarters x = new BentQuarters();
        Model m = new Model();
        int scale = 1 + random.nextInt(99);
        int begin = random.nextInt(13);
        for (int t = 0; t < begin; t++) {
            both("run " + seed, x, m, "quarter", near(random, scale), 0);
        }
        for (int k = 0; k < CALLS && !CHECK.failed(); k++) {
            String run = "run " + seed + ", call " + k;
            if (random.nextInt(12) == 0) {
                types(run, x, m, orders(random, m, scale));
                both(run, x, m, "does", 0, 0);
            }
            String[] names = random.nextBoolean() ? CHANGES : GETTERS;
            String name = names[random.nextInt(names.length)];
            both(run, x, m, name, first(random, m, name, scale), second(random, m, name, scale));
            if (name.equals("total") && random.nextInt(3) > 0) {
                // one that can be met
                int y = random.nextInt(3);
                both(run, x, m, name, y, Math.floorMod((int) m.call("year", y, 1) + random.nextInt(41) - 20, 1000));
            }
        }
    }

    /** As many calls as an object is used for, THE TEXT being typed between the others. */
    private static void longest(int seed) {
        Random random = new Random(7000 + seed);
        BentQuarters x = new BentQuarters();
        Model m = new Model();
        int scale = 1 + random.nextInt(99);
        String text = "";
        int typed = 0;
        for (int k = 1; k < MOST_CALLS && !CHECK.failed(); k++) {
            String run = "longest run " + seed + ", call " + k;
            if (random.nextInt(3) == 0) {
                String[] names = random.nextInt(3) > 0 ? CHANGES : GETTERS;
                String name = names[random.nextInt(names.length)];
                both(run, x, m, name, first(random, m, name, scale), second(random, m, name, scale));
            } else if (typed < text.length()) {
                both(run, x, m, "type", text.charAt(typed), 0);
                typed++;
            } else if (typed == text.length()) {
                both(run, x, m, "does", 0, 0);
                typed++;
            } else {
                both(run, x, m, "clear", 0, 0);
                text = orders(random, m, scale);
                typed = 0;
            }
        }
        both("longest run " + seed + ", last call", x, m, "digest", 0, 0);
    }

    private static int near(Random random, int scale) {
        return Math.max(1, Math.min(99, scale + random.nextInt(9) - 4));
    }

    private static int first(Random random, Model m, String name, int scale) {
        if (random.nextInt(25) == 0) {
            return WILD[random.nextInt(WILD.length)];
        }
        switch (name) {
            case "quarter": return near(random, scale);
            case "limits": return random.nextInt(5) == 0 ? random.nextInt(26) - 1 : random.nextInt(5) - 1;
            case "form", "moved", "stepped": return random.nextInt(2);
            case "total", "untold", "year", "price": return random.nextInt(3);
            case "count": return random.nextInt(6);
            case "told": return random.nextInt(5);
            default: return random.nextInt(Math.max(1, m.indicators.size()));
        }
    }

    private static int second(Random random, Model m, String name, int scale) {
        if (random.nextInt(25) == 0) {
            return WILD[random.nextInt(WILD.length)];
        }
        switch (name) {
            case "indicates": return near(random, scale);
            case "total": return random.nextInt(1000);
            case "freezes": return random.nextInt(2);
            case "of": return random.nextInt(4);
            default: return random.nextInt(3);
        }
    }

    /** Orders that often can be done. */
    private static String orders(Random random, Model m, int scale) {
        StringBuilder text = new StringBuilder();
        int n = 1 + random.nextInt(6);
        for (int k = 0; k < n; k++) {
            int y = random.nextInt(3);
            int sum = 0;
            for (int t = 4 * y; t < 4 * y + 4 && t < m.indicators.size(); t++) {
                sum += m.indicators.get(t);
            }
            String[] all = {"q" + near(random, scale), "t" + y + " " + Math.max(0, sum + random.nextInt(21) - 10),
                "n " + y, "z" + random.nextInt(12) + " " + random.nextInt(2), "l " + random.nextInt(8), "o", "p", "p ",
                "f " + random.nextInt(2)};
            text.append(all[random.nextInt(all.length)]).append(';');
        }
        return text.toString();
    }

    /** Texts of bytes that may stand somewhere, in any order. */
    private static void texts(int seed) {
        Random random = new Random(1000 + seed);
        BentQuarters x = new BentQuarters();
        Model m = new Model();
        String[] parts = {"q", "t", "n", "z", "l", "o", "f", "p", ";", ";", " ", " ", "0", "1", "12", "3", "q5;", "p;", "f1;",
            "l3;", "o;", "q 20 ;", "z0 1;", "n0;", "t0 80;"};
        for (int k = 0; k < 8; k++) {
            StringBuilder text = new StringBuilder();
            int n = 1 + random.nextInt(12);
            for (int j = 0; j < n; j++) {
                int whole = random.nextInt(3) > 0 ? parts.length - 16 : 0;
                text.append(parts[whole + random.nextInt(parts.length - whole)]);
            }
            String run = "text " + seed + " '" + text + "'";
            types(run, x, m, text.toString());
            both(run, x, m, "does", 0, 0);
            both(run, x, m, "digest", 0, 0);
        }
    }

    /** Few rows meet, so all can be tried. */
    private static void trials(int seed) {
        Random random = new Random(5000 + seed);
        BentQuarters x = new BentQuarters();
        Model m = new Model();
        String run = "trial " + seed;
        int n = 1 + random.nextInt(12);
        int scale = 1 + random.nextInt(99);
        both(run, x, m, "form", random.nextInt(2), 0);
        for (int t = 0; t < n; t++) {
            both(run, x, m, "quarter", near(random, scale), 0);
        }
        both(run, x, m, "publishes", 0, 0);
        for (int t = 0; t < n; t++) {
            both(run, x, m, "indicates", t, near(random, scale));
            if (random.nextInt(4) == 0) {
                both(run, x, m, "freezes", t, 1);
            }
        }
        both(run, x, m, "limits", random.nextInt(n > 8 ? 2 : 4), 0);
        for (int y = 0; y < n / 4; y++) {
            if (random.nextInt(4) > 0) {
                both(run, x, m, "total", y, Math.max(0, (int) m.call("year", y, 1) + random.nextInt(9) - 4));
            }
        }
        if (m.rowsToTry() > 300000) {
            return;
        }
        long[] found = new long[3];
        int[] row = m.tried(found);
        CHECK.due(run + ": others", Math.min(9999, found[2]), x.others());
        for (int t = 0; t < n; t++) {
            CHECK.due(run + ": bent " + t, row == null ? Model.NO : row[t] + 8, x.bent(t));
        }
        CHECK.due(run + ": moved", row == null ? Model.NO : found[0], x.moved(m.form));
    }

    /** Indicators that lie far apart, or all alike, so that many rows are as good. */
    private static void ties() {
        for (int seed = 0; seed < 40 && !CHECK.failed(); seed++) {
            Random random = new Random(9000 + seed);
            BentQuarters x = new BentQuarters();
            Model m = new Model();
            String run = "ties " + seed;
            int i = 1 + random.nextInt(99);
            for (int t = 0; t < 12; t++) {
                both(run, x, m, "quarter", seed % 2 == 0 ? i : t % 2 == 0 ? 1 : 99, 0);
            }
            for (int y = 0; y < 3; y++) {
                int sum = (int) m.call("year", y, 1);
                both(run, x, m, "total", y, Math.max(0, sum + random.nextInt(65) - 32));
            }
            both(run, x, m, "form", seed / 2 % 2, 0);
            both(run, x, m, "others", 0, 0);
            both(run, x, m, "digest", 0, 0);
            both(run, x, m, "price", random.nextInt(3), 0);
            both(run, x, m, "publishes", 0, 0);
            both(run, x, m, "freezes", random.nextInt(12), 1);
            both(run, x, m, "indicates", random.nextInt(12), i);
            both(run, x, m, "digest", 0, 0);
            both(run, x, m, "least", 0, 0);
        }
    }
}
