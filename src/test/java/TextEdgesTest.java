/** The edges that the document names of THE TEXT, its ORDERS and its FAULT (promises 23 to 25). */
public final class TextEdgesTest {
    private static final int NONE = -1, BAD = -2, FULL = -4;
    private static final String LETTERS = "qtnzlofp";
    private static final String FIGURES = "0123456789";
    private static final Check CHECK = new Check("TextEdgesTest");
    private static String sentence = "";

    public static void main(String[] args) {
        bytesFrom0To127();
        atMost120Bytes();
        fullTextIsDone();
        clears();
        oneToThreeFigures();
        whatEachOrderTells();
        blanksAnywhere();
        blanksWithinANumber();
        blanksNeeded();
        whatMayStandWhere();
        endsTooEarly();
        emptyOrBlank();
        faultEndsAll();
        faultComesAheadOfRefusal();
        ordersAtTheirEdges();
        ordersOfTheFull();
        numberOfTheOrder();
        nothingIsDone();
        nothingCounts();
        oneStateForAll();
        textStays();
        limitIsNone();
        ordersSeeThoseAhead();
        CHECK.ends();
    }

    private static void says(String words) {
        sentence = words;
    }

    private static void due(String what, long want, long got) {
        CHECK.due("'" + sentence + "', " + what, want, got);
    }

    private static int fault(int place) {
        return -10 - place;
    }

    private static int ended(int order) {
        return -1000 - order;
    }

    private static int refusals(BentQuarters x) {
        return x.told(0) + x.told(1) + x.told(2);
    }

    // ---- bytes

    private static void bytesFrom0To127() {
        says("A byte (0 .. 127) comes behind THE TEXT: how many it has");
        BentQuarters x = new BentQuarters();
        due("0", 1, x.type(0));
        due("127", 2, x.type(127));
        due("-1", BAD, x.type(-1));
        due("128", BAD, x.type(128));
        // 'p' and ';', but for a bit above the seven
        due("368", BAD, x.type(256 + 'p'));
        due("lowest", BAD, x.type(Integer.MIN_VALUE));
        due("highest", BAD, x.type(Integer.MAX_VALUE));
        due("two still", 2, x.told(3));
        due("how often BAD", 5, x.told(0));
        x.clear();
        for (int c = 0; c <= 119; c++) {
            due("byte " + c, c + 1, x.type(c));
        }
    }

    private static void atMost120Bytes() {
        says("120 bytes at most");
        BentQuarters x = new BentQuarters();
        for (int k = 1; k <= 119; k++) {
            x.type(' ');
        }
        due("the 120th", 120, x.type(' '));
        due("the 121st", FULL, x.type(' '));
        due("still full", FULL, x.type('p'));
        due("how often", 2, x.told(2));
        due("BAD is the first", BAD, x.type(128));
        due("BAD is the first, below", BAD, x.type(-1));
        due("FULL no more often by that", 2, x.told(2));
        due("bytes", 120, x.told(3));
    }

    private static void fullTextIsDone() {
        says("120 bytes at most");
        BentQuarters x = new BentQuarters();
        due("sixty orders", 60, Making.tells(x, "p;".repeat(60)));
        due("a byte more", FULL, x.type('x'));
        due("sixty orders again", 60, x.does());
        due("the last byte is a FAULT", fault(119), Making.tells(x, "p;".repeat(59) + "px"));
        due("its end is the 121st byte", fault(120), Making.tells(x, "p;".repeat(59) + " p;"));
        due("its end was not taken", 120, x.told(3));
        due("its end is the 120th byte", 60, Making.tells(x, "p;".repeat(59) + "p;"));
        due("one order behind 118 blanks", 1, Making.tells(x, " ".repeat(118) + "p;"));
        due("one order ahead of 118 blanks", 1, Making.tells(x, "p;" + " ".repeat(118)));
    }

    private static void clears() {
        says("THE TEXT is empty: how many it had");
        BentQuarters x = new BentQuarters();
        due("none", 0, x.clear());
        Making.types(x, " ".repeat(120));
        due("full", 120, x.clear());
        due("empty", 0, x.told(3));
        due("empty is a FAULT", fault(0), x.does());
        due("the first again", 1, x.type('p'));
        due("nothing of old behind it", fault(1), x.does());
        due("one", 1, x.clear());
    }

    // ---- how it is read

    private static void oneToThreeFigures() {
        says("Numbers have 1 to 3 figures (a fourth figure)");
        String[] letters = {"q", "n", "l", "f"};
        for (String letter : letters) {
            BentQuarters x = Making.like(4, 10);
            x.total(0, 40);
            String last = letter.equals("q") ? "1" : "0";
            due(letter + ", none", fault(1), Making.tells(x, letter + ";"));
            due(letter + ", four", fault(4), Making.tells(x, letter + "000" + last + ";"));
            due(letter + ", three", 1, Making.tells(x, letter + "00" + last + ";"));
            x.total(0, 40);
            due(letter + ", two", 1, Making.tells(x, letter + "0" + last + ";"));
            x.total(0, 40);
            due(letter + ", one", 1, Making.tells(x, letter + last + ";"));
        }
        String[] two = {"t", "z"};
        for (String letter : two) {
            BentQuarters x = Making.like(4, 10);
            x.publishes();
            due(letter + ", none", fault(1), Making.tells(x, letter + ";"));
            due(letter + ", one number", fault(2), Making.tells(x, letter + "0;"));
            due(letter + ", one and one", 1, Making.tells(x, letter + "0 1;"));
            due(letter + ", three and three", 1, Making.tells(x, letter + "000 001;"));
            due(letter + ", four and one", fault(4), Making.tells(x, letter + "0000 1;"));
            due(letter + ", one and four", fault(6), Making.tells(x, letter + "0 0001;"));
            due(letter + ", three and four", fault(8), Making.tells(x, letter + "000 0001;"));
            due(letter + ", a third number", fault(5), Making.tells(x, letter + "0 1 0;"));
        }
        BentQuarters x = new BentQuarters();
        due("999 is read, and refused", ended(0), Making.tells(x, "q999;"));
        due("a fourth figure is a FAULT, though it were refused", fault(4), Making.tells(x, "q9999;"));
        due("its value", 1, Making.tells(x, "q 098 ;"));
        due("its value", 98, x.of(0, 0));
    }

    private static void whatEachOrderTells() {
        says("q i, t y v, n y, z t v, l v, o, f k, p");
        BentQuarters x = Making.like(7, 10);
        due("q", 1, Making.tells(x, "q23;"));
        due("q as quarter", 23, x.of(7, 0));
        due("t", 1, Making.tells(x, "t1 54;"));
        due("t as total", 54, x.year(1, 0));
        due("no other TOTAL", NONE, x.year(0, 0));
        due("p", 1, Making.tells(x, "p;"));
        due("p as publishes", 8, x.count(2));
        due("z on", 1, Making.tells(x, "z6 1;"));
        due("z as freezes", 1 << 6, x.count(3));
        due("z off", 1, Making.tells(x, "z6 0;"));
        due("z as freezes", 0, x.count(3));
        due("l", 1, Making.tells(x, "l24;"));
        due("l as limits", 24, x.count(4));
        due("o", 1, Making.tells(x, "o;"));
        due("the LIMIT is none", NONE, x.count(4));
        due("f", 1, Making.tells(x, "f1;"));
        due("f as form", 1, x.count(5));
        due("n", 1, Making.tells(x, "n1;"));
        due("n as untold", NONE, x.year(1, 0));
    }

    private static void blanksAnywhere() {
        says("blanks (32) may stand anywhere but within a number");
        String[] texts = {"q1;", " q1;", "q 1;", "q1 ;", "q1; ", "  q  1  ;  ", "q12;", " q 12 ; ", "o;", " o ; ", "o  ;", "t0 4;",
            " t 0  4 ; ", "t0    4;", "t 0 4 ;", "n 0;", "n0 ;", "l 5 ;", "f 1 ;", " p ;"};
        for (String text : texts) {
            BentQuarters x = Making.like(4, 10);
            x.total(0, 40);
            due("of " + text, 1, Making.tells(x, text));
        }
        BentQuarters x = new BentQuarters();
        due("between orders", 3, Making.tells(x, "q1;   q2; q3;"));
        due("none between orders", 3, Making.tells(x, "q1;q2;q3;"));
        // other bytes that look like blanks are none
        int[] white = {0, 9, 10, 11, 12, 13, 28, 31, 33};
        for (int c : white) {
            String other = String.valueOf((char) c);
            due("byte " + c + " ahead", fault(0), Making.tells(x, other + "q1;"));
            due("byte " + c + " behind the letter", fault(1), Making.tells(x, "q" + other + "1;"));
            due("byte " + c + " behind the number", fault(2), Making.tells(x, "q1" + other + ";"));
            due("byte " + c + " behind all", fault(3), Making.tells(x, "q1;" + other));
        }
    }

    private static void blanksWithinANumber() {
        says("blanks may stand anywhere but within a number");
        BentQuarters x = Making.like(4, 10);
        due("q 1 2", fault(3), Making.tells(x, "q1 2;"));
        due("q 12 3", fault(4), Making.tells(x, "q12 3;"));
        due("q 1 23, more blanks", fault(5), Making.tells(x, "q1   23;"));
        due("t 0 4 0", fault(5), Making.tells(x, "t0 4 0;"));
        // 0 and 4 are the numbers then
        due("t 04 becomes t 0 4", 1, Making.tells(x, "t0 4;"));
        due("three numbers by a blank", fault(6), Making.tells(x, "t 0 4 1;"));
        due("l 2 4", fault(3), Making.tells(x, "l2 4;"));
        due("f 0 1", fault(3), Making.tells(x, "f0 1;"));
        due("n 0 0", fault(3), Making.tells(x, "n0 0;"));
    }

    private static void blanksNeeded() {
        says("needed only where figures of two numbers would else stand side by side");
        BentQuarters x = Making.like(4, 10);
        x.publishes();
        due("t040 is one number", fault(4), Making.tells(x, "t040;"));
        due("t0 40", 1, Making.tells(x, "t0 40;"));
        due("z01 is one number", fault(3), Making.tells(x, "z01;"));
        due("z0 1", 1, Making.tells(x, "z0 1;"));
        due("a fourth figure begins no second number", fault(4), Making.tells(x, "t0004;"));
        due("three figures and a blank", 1, Making.tells(x, "t000 4;"));
    }

    /** Behind each beginning, all 128 bytes: those that may stand there, and those that are the FAULT. */
    private static void whatMayStandWhere() {
        says("the place of the first byte that can not stand there");
        String[] begun = {"", " ", "q", "q ", "q1", "q12", "q123", "q1 ", "t", "t0", "t123", "t0 ", "t0 1", "t0 123", "t0 1 ", "o",
            "o ", "p", "p ", "n", "n0", "z", "z0 ", "z0 1 ", "l", "l999", "f", "f1 ", "q1;", "q1; ", "p;", "q1;t0 1"};
        String[] fine = {" " + LETTERS, " " + LETTERS, " " + FIGURES, " " + FIGURES, " ;" + FIGURES, " ;" + FIGURES, " ;", " ;",
            " " + FIGURES, " " + FIGURES, " ", " " + FIGURES, " ;" + FIGURES, " ;", " ;", " ;",
            " ;", " ;", " ;", " " + FIGURES, " ;" + FIGURES, " " + FIGURES, " " + FIGURES, " ;", " " + FIGURES, " ;",
            " " + FIGURES, " ;", " " + LETTERS, " " + LETTERS, " " + LETTERS, " ;" + FIGURES};
        for (int k = 0; k < begun.length; k++) {
            for (int c = 0; c <= 127; c++) {
                boolean stands = fine[k].indexOf(c) >= 0;
                int length = begun[k].length();
                // a byte that can never stand anywhere is set behind, so that there always is a FAULT
                BentQuarters x = new BentQuarters();
                due("byte " + c + " behind '" + begun[k] + "'", fault(stands ? length + 1 : length),
                        Making.tells(x, begun[k] + (char) c + "!"));
                due("nothing is done", 0, x.count(0) + x.told(4) + refusals(x));
            }
        }
    }

    private static void endsTooEarly() {
        says("the TEXT's length, if it ends too early");
        String[] texts = {"q", "q1", "q12", "q123", "q1 ", "q ", "t", "t0", "t0 ", "t0 1", "t0 123", "t0 1 ", "o", "o ", "p", "n", "n0",
            "z", "z0", "z0 1", "l", "l1", "f", "f1", "q1;q", "q1;q1", "q1; p", "p;p;p;o", " q", "   q 5"};
        for (String text : texts) {
            BentQuarters x = new BentQuarters();
            due("of '" + text + "'", fault(text.length()), Making.tells(x, text));
            due("nothing is done", 0, x.count(0) + x.told(4) + refusals(x));
        }
        BentQuarters x = new BentQuarters();
        Making.types(x, "q1");
        due("it ends too early", fault(2), x.does());
        x.type(';');
        due("it goes on, and ends", 1, x.does());
        x.type(' ');
        due("a blank behind it", 1, x.does());
        x.type('p');
        due("it ends too early again", fault(5), x.does());
        due("done twice", 2, x.count(0));
    }

    private static void emptyOrBlank() {
        says("one that is empty or has blanks alone, too");
        BentQuarters x = new BentQuarters();
        due("empty", fault(0), x.does());
        for (int k = 1; k <= 120; k++) {
            x.type(' ');
            due(k + " blanks", fault(k), x.does());
        }
        due("no states", 0, x.told(4));
        due("no refusals", 0, refusals(x));
    }

    private static void faultEndsAll() {
        says("If there is one, nothing is done.");
        String[] texts = {"q1;q2;x", "q1;t", "q1;;", "q1234;q1;", "q1;q1;q1;q1;t0 4;p;z0 1;l0;f1;o;=", "x;q1;"};
        int[] places = {6, 4, 3, 4, 32, 0};
        for (int k = 0; k < texts.length; k++) {
            BentQuarters x = Making.like(4, 10);
            x.total(0, 44);
            String before = Making.picture(x);
            due("of " + texts[k], fault(places[k]), Making.tells(x, texts[k]));
            CHECK.same("'" + sentence + "', picture", before, Making.picture(x));
            due("no STATE", 5, x.told(4));
            due("no refusals", 0, refusals(x));
            x.back();
            due("the STATE is the one ahead of the TOTAL", NONE, x.year(0, 0));
        }
    }

    private static void faultComesAheadOfRefusal() {
        says("THE TEXT is read whole first");
        BentQuarters x = new BentQuarters();
        due("refused and a FAULT", fault(3), Making.tells(x, "q0;x"));
        due("refused and too early", fault(4), Making.tells(x, "q0;p"));
        due("refused alone", ended(0), Making.tells(x, "q0;"));
        due("refused and more that is fine", ended(0), Making.tells(x, "q0;q1;"));
    }

    // ---- orders that are refused

    private static void ordersAtTheirEdges() {
        says("an ORDER that its call would refuse then ends all");
        String[] fine = {"q1;", "q99;", "t0 0;", "t0 999;", "n0;", "z0 0;", "z3 1;", "l0;", "l24;", "o;", "f0;", "f1;", "p;"};
        String[] refused = {"q0;", "q100;", "t1 40;", "t2 40;", "t3 40;", "n1;", "n2;", "n3;", "z4 1;", "z5 0;", "z0 2;",
            "l25;", "l999;", "f2;", "f999;", "t999 0;", "z999 0;", "n999;"};
        for (String text : fine) {
            BentQuarters x = four();
            due("of " + text, 1, Making.tells(x, text));
            due("a STATE", 3, x.told(4));
        }
        for (String text : refused) {
            BentQuarters x = four();
            due("of " + text, ended(0), Making.tells(x, text));
            due("no STATE", 2, x.told(4));
            due("no refusals", 0, refusals(x));
        }
        due("a TOTAL of 1000 has a fourth figure", fault(6), Making.tells(four(), "t0 1000;"));
    }

    /** Four QUARTERS, PUBLISHED, with a TOTAL, and a fifth that is not PUBLISHED; two STATES. */
    private static BentQuarters four() {
        BentQuarters x = new BentQuarters();
        Making.tells(x, "q10;q10;q10;q10;t0 40;p;");
        x.quarter(10);
        x.clear();
        return x;
    }

    private static void ordersOfTheFull() {
        says("an ORDER that its call would refuse then ends all");
        BentQuarters x = new BentQuarters();
        due("a thirteenth", ended(12), Making.tells(x, "q1;".repeat(13)));
        due("none is there", 0, x.count(0));
        due("twelve", 12, Making.tells(x, "q1;".repeat(12)));
        due("twelve are there", 12, x.count(0));
        due("one more", ended(0), Making.tells(x, "q1;"));
        due("not told FULL", 0, x.told(2));
        x = Making.like(3, 10);
        due("not all there", ended(0), Making.tells(x, "t0 40;"));
        due("all there then", 2, Making.tells(x, "q10;t0 40;"));
        due("no BENT", ended(1), Making.tells(x, "t0 73;p;"));
        due("BENT", 2, Making.tells(x, "t0 72;p;"));
        due("no BENT within LIMIT", ended(2), Making.tells(x, "l0;t0 71;p;"));
        due("BENT without LIMIT", 4, Making.tells(x, "l0;t0 71;o;p;"));
    }

    private static void numberOfTheOrder() {
        says("-1000 less the number (0 on) of the ORDER that ends all");
        BentQuarters x = Making.like(1, 10);
        x.publishes();
        x.freezes(0, 1);
        x.indicates(0, 19);
        for (int k = 0; k < 60; k++) {
            due("number " + k, ended(k), Making.tells(x, "o;".repeat(k) + "p;" + "o;".repeat(59 - k)));
        }
        due("the first of two", ended(1), Making.tells(x, "o;f7;o;f8;"));
        due("all sixty are fine", 60, Making.tells(x, "o;".repeat(60)));
    }

    private static void nothingIsDone() {
        says("nothing is done");
        BentQuarters x = Making.like(4, 10);
        x.total(0, 44);
        x.publishes();
        String[] texts = {"q5;q0;", "t0 48;q0;", "n0;n0;", "z0 1;z9 1;", "l3;l25;", "f1;f2;", "t0 48;p;q0;",
            "q1;q2;q3;q4;t1 20;p;z0 1;z7 1;l2;f1;t0 70;p;"};
        for (String text : texts) {
            String before = Making.picture(x);
            due("of " + text, 1, Making.tells(x, text) <= -1000 ? 1 : 0);
            CHECK.same("'" + sentence + "', picture behind " + text, before, Making.picture(x));
            due("STATES", 5, x.told(4));
        }
        x.back();
        due("the STATE is the one ahead of PUBLISHING", 0, x.count(2));
        x.back();
        due("the STATE is the one ahead of the TOTAL", NONE, x.year(0, 0));
        due("three more", 3, x.told(4));
    }

    private static void nothingCounts() {
        says("By THE TEXT nothing counts.");
        BentQuarters x = Making.like(12, 10);
        Making.tells(x, "l25;");
        due("BAD", 0, x.told(0));
        Making.tells(x, "n0;");
        due("NO", 0, x.told(1));
        Making.tells(x, "q1;");
        due("FULL", 0, x.told(2));
        Making.tells(x, "=");
        due("a FAULT", 0, refusals(x));
        x.limits(25);
        x.untold(0);
        x.quarter(1);
        due("the calls themselves", 3, refusals(x));
        due("each kind", 111, 100 * x.told(0) + 10 * x.told(1) + x.told(2));
    }

    private static void oneStateForAll() {
        says("S (one STATE for all)");
        BentQuarters x = new BentQuarters();
        due("how many", 7, Making.tells(x, "q1;q2;q3;q4;f1;l3;p;"));
        due("one", 1, x.told(4));
        due("how many", 1, Making.tells(x, "f1;"));
        due("also if nothing becomes other", 2, x.told(4));
        due("back", 1, x.back());
        due("four yet", 4, x.count(0));
        due("back", 0, x.back());
        due("none", 0, x.count(0));
        due("FORM", 0, x.count(5));
        due("LIMIT", NONE, x.count(4));
    }

    private static void textStays() {
        says("(THE TEXT stays)");
        BentQuarters x = new BentQuarters();
        due("once", 1, Making.tells(x, "q7;"));
        due("bytes", 3, x.told(3));
        due("twice", 1, x.does());
        x.back();
        due("behind back, too", 1, x.does());
        due("two", 2, x.count(0));
        Making.types(x, "x");
        due("a FAULT", fault(3), x.does());
        due("bytes behind a FAULT", 4, x.told(3));
        Making.tells(x, "q0;");
        due("bytes behind one that was refused", 3, x.told(3));
        due("cleared", 3, x.clear());
    }

    private static void limitIsNone() {
        says("o (the LIMIT is none)");
        BentQuarters x = Making.with(10);
        due("there was none", 1, Making.tells(x, "o;"));
        due("a STATE all the same", 2, x.told(4));
        x.limits(0);
        due("there was one", 1, Making.tells(x, "o;"));
        due("none", NONE, x.count(4));
        due("back", 3, x.back());
        due("0 again", 0, x.count(4));
        due("o takes no number", fault(1), Making.tells(x, "o0;"));
        due("p takes no number", fault(1), Making.tells(x, "p0;"));
    }

    private static void ordersSeeThoseAhead() {
        says("ORDERS are done: how many");
        BentQuarters x = Making.like(4, 10);
        due("bent is asked ahead", 18, x.bent(0));
        due("each sees those ahead", 6, Making.tells(x, "t0 44;p;z0 1;t0 47;p;l1;"));
        due("published by the first p", 19, x.of(0, 1));
        due("published by the second p", 20, x.of(1, 1));
        due("bent behind it", 20, x.bent(3));
        due("order decides", ended(0), Making.tells(x, "z4 1;q10;p;"));
        due("in the right order", 3, Making.tells(x, "q10;p;z4 1;"));
        due("frozen", 1 + (1 << 4), x.count(3));
    }
}
