/** What the tests of the edges share: objects made ready, texts typed, and what can be seen of an object. */
final class Making {
    private Making() {
    }

    static BentQuarters with(int... indicators) {
        BentQuarters x = new BentQuarters();
        for (int i : indicators) {
            x.quarter(i);
        }
        return x;
    }

    /** So many QUARTERS, all with that INDICATOR. */
    static BentQuarters like(int quarters, int i) {
        BentQuarters x = new BentQuarters();
        for (int t = 0; t < quarters; t++) {
            x.quarter(i);
        }
        return x;
    }

    static void types(BentQuarters x, String text) {
        for (int k = 0; k < text.length(); k++) {
            x.type(text.charAt(k));
        }
    }

    /** THE TEXT becomes that, and is done. */
    static int tells(BentQuarters x, String text) {
        x.clear();
        types(x, text);
        return x.does();
    }

    /** The x of BENT, or "none". */
    static String row(BentQuarters x) {
        if (x.others() == 0) {
            return "none";
        }
        StringBuilder row = new StringBuilder();
        for (int t = 0; t < x.count(0); t++) {
            row.append(t == 0 ? "" : " ").append(x.bent(t) - 8);
        }
        return row.toString();
    }

    /** What is SHARED OUT. */
    static String shares(BentQuarters x) {
        StringBuilder row = new StringBuilder();
        for (int t = 0; t < x.count(0); t++) {
            row.append(t == 0 ? "" : " ").append(x.shared(t));
        }
        return row.toString();
    }

    /** All that can be asked of the figures without being refused: what a STATE holds, and all that comes of it. */
    static String picture(BentQuarters x) {
        StringBuilder all = new StringBuilder("counts");
        for (int what = 0; what <= 5; what++) {
            all.append(' ').append(x.count(what));
        }
        for (int y = 0; y <= 2; y++) {
            all.append("; year ").append(x.year(y, 0)).append(' ').append(x.year(y, 1)).append(' ').append(x.year(y, 2));
        }
        for (int t = 0; t < x.count(0); t++) {
            all.append("; quarter ").append(x.of(t, 0)).append(' ').append(x.of(t, 1)).append(' ').append(x.of(t, 2));
        }
        all.append("; shared ").append(shares(x)).append(" stepped ").append(x.stepped(0)).append(' ').append(x.stepped(1));
        all.append("; least ").append(x.least()).append(" others ").append(x.others()).append(" row ").append(row(x));
        if (x.others() > 0) {
            all.append(" moved ").append(x.moved(0)).append(' ').append(x.moved(1)).append(" farthest ").append(x.farthest());
            for (int y = 0; y <= 2; y++) {
                all.append(x.year(y, 0) < 0 ? "" : " price " + x.price(y));
            }
            for (int t = 0; t < x.count(0); t++) {
                all.append(x.of(t, 1) < 0 ? "" : " revised " + x.revised(t));
            }
        }
        return all.toString();
    }

    /** How often refused, bytes of THE TEXT, STATES. */
    static String told(BentQuarters x) {
        return x.told(0) + " " + x.told(1) + " " + x.told(2) + " " + x.told(3) + " " + x.told(4);
    }

    /** The pictures of all STATES that can be gone back to; the object is at the oldest of them then. */
    static String past(BentQuarters x) {
        StringBuilder all = new StringBuilder();
        for (int k = x.told(4); k > 0; k--) {
            all.append('\n').append(x.back()).append(": ").append(picture(x));
        }
        return all.toString();
    }
}
