import java.math.BigInteger;

// Each sentence of the document that names a boundary case, in its order, with a test of its own: answers are worked
// out by hand. What is refused, and in which order, is in CartsDownHillRefusals.
public final class CartsDownHillEdges {
    private static final int NONE = -1, UNKNOWN = -101, OUTSIDE = -102, STATE = -103, FULL = -104;
    private static final int DOWN = 0, STANDS = 1, LEAVES = 2;
    private static final long EIGHT = 0x0101010101010101L;
    private static final String ELEVEN_COMMAS = "0,1,2,3,4,5,6,7,8,9,0,";

    private static int wrong = 0;
    private static int asked = 0;
    private static int sentences = 0;
    private static String sentence = "";

    private static void says(int promise, String words) {
        sentences++;
        sentence = "promise " + promise + ", \"" + words + "\"";
    }

    private static void due(String call, long got, long want) {
        asked++;
        if (got != want) {
            wrong++;
            System.out.println(sentence + ": " + call + " answered " + got + ", due is " + want);
        }
    }

    private static void write(CartsDownHill x, String text) {
        for (int from = 0; from < text.length(); from += 8) {
            long w = 0;
            for (int i = Math.min(text.length(), from + 8) - 1; i >= from; i--) {
                w = w << 8 | text.charAt(i);
            }
            x.letters(w);
        }
    }

    private static CartsDownHill page(String text) {
        CartsDownHill x = new CartsDownHill();
        write(x, text);
        due("letters of " + text, x.count(4), text.length());
        return x;
    }

    /** A new object with a HILL (none, if it is null) and CARTS. */
    private static CartsDownHill with(String hill, String... carts) {
        CartsDownHill x = new CartsDownHill();
        if (hill != null) {
            write(x, hill);
            due("hill() of " + hill, x.hill(), hill.split(",").length);
        }
        for (int i = 0; i < carts.length; i++) {
            write(x, carts[i]);
            due("cart() of " + carts[i], x.cart(), i);
        }
        return x;
    }

    public static void main(String[] args) {
        newObject();
        letters();
        blank();
        faultOfHill();
        faultOfCart();
        hillCells();
        hillRead();
        carts();
        tellings();
        kinds();
        hands();
        runSwing();
        runBends();
        runPace();
        runLosses();
        runBrake();
        pace();
        lost();
        bestBrakes();
        bestBrakesOfLikeOnes();
        bestPush();
        work();
        weighed();
        close();
        farthest();
        coast();
        rubs();
        chance();
        wins();
        plan();
        staysTenths();
        staysWhere();
        straw();
        image();
        restore();
        restoreAnotherHill();
        count();
        digest();
        System.out.println(sentences + " sentences, " + asked + " answers, " + wrong + " wrong");
        if (wrong != 0) {
            System.exit(1);
        }
    }

    // ---- texts

    private static void newObject() {
        says(1, "No HILL, no CARTS");
        CartsDownHill x = new CartsDownHill();
        int[] want = {0, 0, 0, 0, 0, 0, 9};
        for (int what = 0; what <= 6; what++) {
            due("count(" + what + ")", x.count(what), want[what]);
        }
        due("cell(0, 0)", x.cell(0, 0), UNKNOWN);
        due("about(0, 0)", x.about(0, 0), UNKNOWN);
        due("close(0, 0)", x.close(0, 0), STATE);
        due("image()", x.image(), STATE);
    }

    /** Ones at the places ahead, then a code. */
    private static long ones(int places, long code) {
        long w = code << 8 * places;
        for (int i = 0; i < places; i++) {
            w |= 1L << 8 * i;
        }
        return w;
    }

    private static void letters() {
        says(2, "up to eight, the lowest byte first, until a byte that is 0");
        for (int n = 0; n <= 8; n++) {
            due(n + " letters", new CartsDownHill().letters(n == 8 ? EIGHT : ones(n, 0)), n);
        }
        CartsDownHill x = new CartsDownHill();
        due("abcdefgh", x.letters(0x6867666564636261L), 8);
        due("their order", x.digest(),
            sum(491, 1023, 97, 98, 99, 100, 101, 102, 103, 104, 0, 0, 0, 0, 8, 0, 9));
        says(2, "OUTSIDE: a byte above 126");
        for (int place = 0; place < 8; place++) {
            due("126 at " + place, new CartsDownHill().letters(ones(place, 126)), place + 1);
            for (int code : new int[] {127, 128, 255}) {
                due(code + " at " + place, new CartsDownHill().letters(ones(place, code)), OUTSIDE);
            }
        }
        says(2, "OUTSIDE: one behind a 0 that is not 0");
        for (int zero = 0; zero < 7; zero++) {
            for (int behind = zero + 1; behind < 8; behind++) {
                long w = ones(zero, 0) | 1L << 8 * behind;
                due("0 at " + zero + ", 1 at " + behind, new CartsDownHill().letters(w), OUTSIDE);
            }
        }
        says(2, "FULL: above 50");
        for (int more = 1; more <= 8; more++) {
            String had = "x".repeat(50 - more);
            due(had.length() + " and " + more, page(had).letters(EIGHT >>> 8 * (8 - more)), 50);
            x = page(had + "x");
            due("one above", x.letters(EIGHT >>> 8 * (8 - more)), FULL);
            due("none of them came", x.count(4), 51 - more);
        }
        due("none come, when there are 50", page("x".repeat(50)).letters(0), 50);
    }

    private static void blank() {
        says(3, "THE PAGE is empty");
        CartsDownHill x = new CartsDownHill();
        due("of none", x.blank(), 0);
        x = page("3,4".repeat(16) + "ab");
        due("of 50", x.blank(), 50);
        due("again", x.blank(), 0);
        due("letters", x.count(4), 0);
        due("fault(0)", x.fault(0), 0);
        due("as a new one", x.digest(), new CartsDownHill().digest());
        due("hill()", x.hill(), STATE);
        due("letters come from the first place on", x.letters('7' | ',' << 8 | '8' << 16), 3);
        due("hill()", x.hill(), 2);
        due("cell(0, 0)", x.cell(0, 0), 7);
    }

    /** All letters that may come behind a text, by fault(). */
    private static void next(int sort, String text, String want) {
        due("fault of " + text, page(text).fault(sort), text.length());
        for (char code = 1; code <= 126; code++) {
            boolean fits = want.indexOf(code) >= 0;
            CartsDownHill x = page(text + code);
            due("fault(" + sort + ") of " + text + code, x.fault(sort), text.length() + (fits ? 1 : 0));
            x.letters('\n');
            if (!fits) {
                due("the first such letter", x.fault(sort), text.length());
            }
        }
    }

    private static void faultOfHill() {
        says(4, "the first letter that no HILL has there, behind those ahead of it");
        next(0, "", "0123456789");
        next(0, "0", ",bu");
        next(0, "9", ",bu");
        next(0, "3b", "123456789");
        next(0, "3b1", ",");
        next(0, "3b9", ",");
        next(0, "3u", ",");
        next(0, "3,", "0123456789");
        next(0, "3b2,", "0123456789");
        next(0, "3u,4", ",bu");
        next(0, "3,4b9", ",");
        says(4, "a HILL has twelve CELLS at most");
        next(0, "0,1,2,3,4,5,6,7,8,9,0", ",bu");
        next(0, ELEVEN_COMMAS, "0123456789");
        next(0, ELEVEN_COMMAS + "1", "bu");
        next(0, ELEVEN_COMMAS + "1b", "123456789");
        next(0, ELEVEN_COMMAS + "1b9", "");
        next(0, ELEVEN_COMMAS + "1u", "");
        says(4, "how many letters it has, if there is none");
        due("of the longest HILL", page("1b1,".repeat(11) + "1b1").fault(0), 47);
        due("one more", page("1b1,".repeat(11) + "1b1,").fault(0), 47);
        due("of an empty PAGE", new CartsDownHill().fault(0), 0);
        due("of a text that is no HILL yet", page("3,4b").fault(0), 4);
        says(4, "OUTSIDE");
        due("fault(2)", page("3").fault(2), OUTSIDE);
        due("fault(-1)", page("3").fault(-1), OUTSIDE);
    }

    private static void faultOfCart() {
        says(4, "the first letter that no CART has there");
        next(1, "", "w");
        next(1, "w", "123456789");
        next(1, "w1", "0123456789");
        next(1, "w9", "0123456789");
        next(1, "w10", ",");
        next(1, "w99", ",");
        next(1, "w10,", "lrtaus");
        for (char kind : "lrtaus".toCharArray()) {
            next(1, "w10," + kind, "123456789");
            next(1, "w10," + kind + "9", ",");
        }
        says(4, "a CART has up to five LOSSES");
        next(1, "w10,l1,l1,l1,l1", ",");
        next(1, "w10,l1,l1,l1,l1,", "lrtaus");
        next(1, "w10,l1,l1,l1,l1,l", "123456789");
        next(1, "w10,l1,l1,l1,l1,l1", "");
        says(4, "how many letters it has, if there is none: CART");
        due("of an empty PAGE", new CartsDownHill().fault(1), 0);
        due("of a text that is no CART yet", page("w1").fault(1), 2);
    }

    private static void noHill(String text) {
        CartsDownHill x = page(text);
        due("hill() of " + text, x.hill(), STATE);
        due("letters of " + text, x.count(4), text.length());
        due("CELLS", x.count(0), 0);
        due("HILLS", x.count(5), 0);
    }

    private static void hillCells() {
        says(5, "two to twelve CELLS");
        noHill("3");
        noHill("3b9");
        noHill("3u");
        for (int cells = 2; cells <= 12; cells++) {
            String text = "7b5,".repeat(cells - 1) + "8u";
            CartsDownHill x = page(text);
            due("hill() of " + text, x.hill(), cells);
            due("the last DROP", x.cell(cells - 1, 0), 8);
            due("one behind it", x.cell(cells, 0), UNKNOWN);
        }
        noHill("7,".repeat(12) + "8");
        noHill("7,".repeat(12));
        says(5, "a digit, its DROP, and SHARP 1 to 9");
        CartsDownHill x = with("0b1,9b9,0u,9");
        int[][] want = {{0, 1, 0, 0}, {9, 9, 0, 0}, {0, 0, 1, 0}, {9, 0, 0, 0}};
        for (int cell = 0; cell < 4; cell++) {
            for (int what = 0; what <= 3; what++) {
                due("cell(" + cell + ", " + what + ")", x.cell(cell, what), want[cell][what]);
            }
        }
        noHill("3,4b0");
        noHill("3b0,4");
        noHill("10,4");
        says(5, "STATE: it is none");
        noHill("");
        noHill("3,");
        noHill("3,4b");
        noHill("3,4,");
        noHill("3,,4");
        noHill(",3,4");
        noHill("3,4b5u");
        noHill("3,4ub5");
        noHill("3,4 ");
        noHill("w10");
        x = page("3");
        due("hill() of 3", x.hill(), STATE);
        write(x, ",4");
        due("letters stayed: hill() of 3,4", x.hill(), 2);
    }

    private static void hillRead() {
        says(5, "another one is gone; BRAKES are 0");
        CartsDownHill x = with("1b1,2b2,3u,4b4", "w50,l1");
        for (int cell = 0; cell < 4; cell++) {
            due("brake", x.brake(cell, 9), 0);
        }
        x.grip(33);
        x.coast(0, 9, 9);
        write(x, "5u,6");
        due("hill()", x.hill(), 2);
        int[][] want = {{5, 0, 1, 0}, {6, 0, 0, 0}};
        for (int cell = 0; cell < 2; cell++) {
            for (int what = 0; what <= 3; what++) {
                due("cell(" + cell + ", " + what + ")", x.cell(cell, what), want[cell][what]);
            }
        }
        due("cell(2, 0)", x.cell(2, 0), UNKNOWN);
        due("BENDS", x.count(1), 0);
        write(x, "1,2,3,4");
        due("a longer one", x.hill(), 4);
        for (int cell = 0; cell < 4; cell++) {
            due("DROP", x.cell(cell, 0), cell + 1);
            due("no BEND of the first one", x.cell(cell, 1), 0);
            due("no BUMP of the first one", x.cell(cell, 2), 0);
            due("no BRAKE of the first one", x.cell(cell, 3), 0);
        }
        due("GRIP stays", x.count(6), 33);
        due("CARTS stay", x.count(2), 1);
        due("COASTS stay", x.count(3), 1);
        due("HILLS read", x.count(5), 3);
        says(5, "THE PAGE is empty then");
        due("letters", x.count(4), 0);
        due("hill() of it", x.hill(), STATE);
        says(5, "STATE: it is none; THE HILL stays");
        x.brake(1, 5);
        write(x, "8,9,");
        due("hill()", x.hill(), STATE);
        due("CELLS", x.count(0), 4);
        due("DROP", x.cell(0, 0), 1);
        due("BRAKE", x.cell(1, 3), 5);
        due("HILLS read", x.count(5), 3);
    }

    private static void noCart(String text) {
        CartsDownHill x = page(text);
        due("cart() of " + text, x.cart(), STATE);
        due("letters of " + text, x.count(4), text.length());
        due("CARTS", x.count(2), 0);
    }

    private static void carts() {
        says(6, "WEIGHT (10 to 99)");
        due("w10", with(null, "w10").about(0, 0), 10);
        due("w99", with(null, "w99").about(0, 0), 99);
        due("w90", with(null, "w90").about(0, 0), 90);
        noCart("w09");
        noCart("w9");
        noCart("w100");
        says(6, "up to five LOSSES, n (1 to 9)");
        String[] more = {",l1", ",r9", ",t2", ",a8", ",u3"};
        String text = "w10";
        for (int size = 0; size <= 5; size++) {
            CartsDownHill x = with(null, text);
            due("LOSSES of " + text, x.about(0, 1), size);
            due("one behind them", x.loss(0, size, 0), UNKNOWN);
            text += size < 5 ? more[size] : "";
        }
        noCart(text + ",s4");
        noCart(text + ",");
        noCart("w10,l0");
        noCart("w10,l10");
        says(6, "a KIND may come more than once");
        due("five of one KIND", with(null, "w10,s1,s1,s1,s1,s1").about(0, 1), 5);
        says(6, "STATE: it is none");
        for (String none : new String[] {"", "w", "w1", "w10,", "w10,l", "w10l1", "w10,b1", "W10", "10", "3,4", "w10 "}) {
            noCart(none);
        }
        says(6, "CARTS (8 at most, numbered); FULL");
        CartsDownHill x = with(null, "w10", "w11", "w12", "w13", "w14", "w15", "w16", "w17");
        write(x, "w18");
        due("the ninth", x.cart(), FULL);
        due("CARTS", x.count(2), 8);
        due("letters stay", x.count(4), 3);
        due("the eighth", x.about(7, 0), 17);
        due("no ninth", x.about(8, 0), UNKNOWN);
        says(6, "STATE ahead of FULL");
        write(x, ",");
        due("no CART's text", x.cart(), STATE);
        says(6, "THE PAGE is empty then");
        x = with(null, "w10");
        due("letters", x.count(4), 0);
        due("cart() of it", x.cart(), STATE);
    }

    private static void tellings() {
        says(7, "UNKNOWN (without a HILL, too)");
        CartsDownHill x = new CartsDownHill();
        for (int what = -1; what <= 4; what++) {
            due("cell(0, " + what + ")", x.cell(0, what), UNKNOWN);
        }
        says(7, "UNKNOWN; OUTSIDE");
        x = with("1,2");
        due("cell(-1, 0)", x.cell(-1, 0), UNKNOWN);
        due("cell(2, 0)", x.cell(2, 0), UNKNOWN);
        due("cell(2, 4)", x.cell(2, 4), UNKNOWN);
        due("cell(1, 4)", x.cell(1, 4), OUTSIDE);
        due("cell(1, -1)", x.cell(1, -1), OUTSIDE);
        says(8, "UNKNOWN; OUTSIDE");
        x = with(null, "w10", "w20,l1");
        due("about(1, 1)", x.about(1, 1), 1);
        due("about(2, 0)", x.about(2, 0), UNKNOWN);
        due("about(-1, 0)", x.about(-1, 0), UNKNOWN);
        due("about(2, 2)", x.about(2, 2), UNKNOWN);
        due("about(1, 2)", x.about(1, 2), OUTSIDE);
        due("about(1, -1)", x.about(1, -1), OUTSIDE);
        says(9, "UNKNOWN: cart, loss; OUTSIDE");
        due("a CART without LOSSES", x.loss(0, 0, 0), UNKNOWN);
        due("loss(1, 0, 1)", x.loss(1, 0, 1), 1);
        due("loss(1, 1, 0)", x.loss(1, 1, 0), UNKNOWN);
        due("loss(1, -1, 0)", x.loss(1, -1, 0), UNKNOWN);
        due("loss(2, 0, 0)", x.loss(2, 0, 0), UNKNOWN);
        due("loss(1, 1, 2)", x.loss(1, 1, 2), UNKNOWN);
        due("loss(1, 0, 2)", x.loss(1, 0, 2), OUTSIDE);
        due("loss(1, 0, -1)", x.loss(1, 0, -1), OUTSIDE);
    }

    private static void kinds() {
        says(10, "All are LOSSES; a TOED is RUBBED, too; NONE: it is none such");
        String[] kindsOf = {"0", "01", "012", "03", "04", "05"};
        for (int own = 0; own <= 5; own++) {
            CartsDownHill x = with(null, "w10,l9," + "lrtaus".charAt(own) + "1");
            due("its KIND", x.loss(0, 1, 0), own);
            for (int kind = 0; kind <= 5; kind++) {
                // TOED is 2, and of the KINDS 0, 1 and 2; RUBBED is 1, and of 0 and 1 alone.
                boolean is = kindsOf[own].indexOf('0' + kind) >= 0;
                due("as(0, 1, " + kind + ") of " + own, x.as(0, 1, kind), is ? 1 : NONE);
            }
            due("as(0, 1, 6)", x.as(0, 1, 6), OUTSIDE);
            due("as(0, 1, -1)", x.as(0, 1, -1), OUTSIDE);
            due("as(0, 2, 6)", x.as(0, 2, 6), UNKNOWN);
            due("as(0, -1, 0)", x.as(0, -1, 0), UNKNOWN);
            due("as(1, 0, 0)", x.as(1, 0, 0), UNKNOWN);
        }
    }

    // ---- hands

    private static void hands() {
        says(11, "WEIGHT of a CART becomes v: what it was");
        CartsDownHill x = with(null, "w50", "w60");
        int[] weights = {10, 99, 9, 100, 11};
        int[] was = {60, 10, OUTSIDE, OUTSIDE, 99};
        for (int i = 0; i < weights.length; i++) {
            due("weigh(1, " + weights[i] + ")", x.weigh(1, weights[i]), was[i]);
        }
        due("the other CART", x.about(0, 0), 50);
        due("weigh(2, 9)", x.weigh(2, 9), UNKNOWN);
        due("weigh(-1, 10)", x.weigh(-1, 10), UNKNOWN);
        says(12, "GRIP (1 to 99; 9 at first)");
        x = new CartsDownHill();
        int[] grips = {1, 99, 0, 100, -1, 50};
        int[] gripWas = {9, 1, OUTSIDE, OUTSIDE, OUTSIDE, 99};
        for (int i = 0; i < grips.length; i++) {
            due("grip(" + grips[i] + ")", x.grip(grips[i]), gripWas[i]);
        }
        says(13, "BRAKES (tenths 0 to 9 of each CELL; 0 at first)");
        due("without a HILL", x.brake(0, 0), UNKNOWN);
        x = with("1,2");
        int[] tenths = {9, 10, -1, 0, 5};
        int[] tenthsWere = {0, OUTSIDE, OUTSIDE, 9, 0};
        for (int i = 0; i < tenths.length; i++) {
            due("brake(1, " + tenths[i] + ")", x.brake(1, tenths[i]), tenthsWere[i]);
        }
        due("the other CELL", x.cell(0, 3), 0);
        due("brake(2, 10)", x.brake(2, 10), UNKNOWN);
        due("brake(-1, 0)", x.brake(-1, 0), UNKNOWN);
    }

    // ---- runs

    private static void runOf(CartsDownHill x, int swing, int... want) {
        for (int what = 0; what <= 3; what++) {
            due("run(0, " + swing + ", " + what + ")", x.run(0, swing, what), want[what]);
        }
    }

    private static void runSwing() {
        says(14, "begins with SWING (0 to 9999)");
        CartsDownHill x = with("0,0", "w50");
        runOf(x, 0, STANDS, 0, 0, 0);
        runOf(x, 1, DOWN, 1, 2000, 1);
        runOf(x, 9999, DOWN, 1, 20, 9999);
        due("10000", x.run(0, 10000, 0), OUTSIDE);
        due("-1", x.run(0, -1, 0), OUTSIDE);
        says(14, "SWING is 20 times DROP more");
        runOf(with("1,0", "w50"), 0, DOWN, 1, 500, 20);
        // From 10179, root 100, to 12159, root 110: 10 and eleven times 9.
        runOf(with("9,9,9,9,9,9,9,9,9,9,9,9", "w50"), 9999, DOWN, 11, 109, 12159);
        says(14, "If nothing is left (or less), it STANDS in that CELL: SWING is 0");
        x = with("0,0,0", "w50,l3");
        runOf(x, 2, STANDS, 0, 0, 0);
        runOf(x, 3, STANDS, 0, 0, 0);
        runOf(x, 4, STANDS, 1, 1000, 0);
        runOf(x, 6, STANDS, 1, 1000, 0);
        // 4 and 1 are left, then less than nothing; then just nothing; then 1.
        runOf(x, 7, STANDS, 2, 1500, 0);
        runOf(x, 9, STANDS, 2, 1500, 0);
        runOf(x, 10, DOWN, 2, 2000, 1);
    }

    private static void runBends() {
        says(14, "it LEAVES, if SWING is above 100 times GRIP by SHARP (rounded down)");
        int[][] bearable = {{9, 9, 100}, {10, 9, 111}, {1, 9, 11}, {99, 1, 9900}, {9, 7, 128}, {9, 1, 900}, {9, 8, 112}};
        for (int[] b : bearable) {
            CartsDownHill x = with("0,0b" + b[1], "w50");
            x.grip(b[0]);
            due("GRIP " + b[0] + ", SHARP " + b[1] + ": at it", x.run(0, b[2], 0), DOWN);
            due("GRIP " + b[0] + ", SHARP " + b[1] + ": above it", x.run(0, b[2] + 1, 0), LEAVES);
        }
        says(14, "SWING in the end of the CELL is what counts there");
        runOf(with("5b9,0", "w50,l1"), 1, DOWN, 1, 211, 99);
        runOf(with("5b9,0", "w50,l1"), 2, LEAVES, 0, 100, 101);
        says(14, "a BEND in CELL 0, and in the last one");
        runOf(with("5b9,0", "w50"), 0, DOWN, 1, 200, 100);
        runOf(with("5b9,0", "w50"), 1, LEAVES, 0, 100, 101);
        runOf(with("5,0b9", "w50"), 1, LEAVES, 1, 200, 101);
        says(14, "it LEAVES in a BEND alone");
        runOf(with("9u,9", "w50"), 9999, DOWN, 1, 19, 10359);
        says(14, "TIME: not of a CELL in which it STANDS; of one in which it LEAVES, too");
        // 90 is left, then 1 less than nothing; 101 is left in both.
        runOf(with("5,0b9,0", "w50,t9,l1"), 0, STANDS, 1, 111, 0);
        runOf(with("5,0b9,0", "w50"), 1, LEAVES, 1, 200, 101);
    }

    private static void runPace() {
        says(14, "PACE: the whole root; TIME: 1000 by PACE (rounded down)");
        CartsDownHill x = with("0,0", "w50");
        int[][] want = {{3, 2000}, {4, 1000}, {8, 1000}, {9, 666}, {15, 666}, {16, 500}, {99, 222}, {100, 200},
            {120, 200}, {121, 180}, {9800, 20}, {9801, 20}, {8280, 22}, {8281, 20}};
        for (int[] w : want) {
            due("TIME from " + w[0], x.run(0, w[0], 2), w[1]);
        }
    }

    private static void runLosses() {
        says(14, "a LOSS n; a RUBBED twice n");
        due("l9", with("0,0", "w50,l9").pace(0, 100, 0), 91);
        due("r9", with("0,0", "w50,r9").pace(0, 100, 0), 82);
        says(14, "a TOED n and, in a BEND, n times SHARP");
        CartsDownHill x = with("0,0b9,0u,0b1", "w50,t2");
        x.grip(99);
        int[] left = {998, 978, 976, 972};
        for (int cell = 0; cell < 4; cell++) {
            due("t2 in " + cell, x.pace(0, 1000, cell), left[cell]);
        }
        says(14, "an AIRED SWING times n by (10 times WEIGHT) (rounded down)");
        due("99 by 100", with("0,0", "w10,a9").pace(0, 11, 0), 11);
        due("108 by 100", with("0,0", "w10,a9").pace(0, 12, 0), 11);
        due("989 by 990", with("0,0", "w99,a1").pace(0, 989, 0), 989);
        due("990 by 990", with("0,0", "w99,a1").pace(0, 990, 0), 989);
        says(14, "a BUMPED, on a BUMP, SWING times n by 40 (rounded down)");
        due("39 by 40", with("0u,0", "w50,u1").pace(0, 39, 0), 39);
        due("40 by 40", with("0u,0", "w50,u1").pace(0, 40, 0), 39);
        due("36 by 40", with("0u,0", "w50,u9").pace(0, 4, 0), 4);
        due("45 by 40", with("0u,0", "w50,u9").pace(0, 5, 0), 4);
        due("no BUMP", with("0,0u", "w50,u9").pace(0, 800, 0), 800);
        due("a BEND is none", with("0b1,0u", "w50,u9").pace(0, 800, 0), 800);
        says(14, "a TURNED n times DROP");
        due("DROP 0", with("0,9", "w50,s9").pace(0, 1, 0), 1);
        due("DROP 9", with("9,0", "w50,s9").pace(0, 1, 0), 100);
        says(14, "by SWING as it is then (alike for all)");
        // 100 for both: 9 and 9, not 9 and 8; for l9 and a9 too.
        due("a9 and a9", with("5,0", "w10,a9,a9").pace(0, 0, 0), 82);
        due("l9 and a9", with("5,0", "w10,l9,a9").pace(0, 0, 0), 82);
        due("u9 and u9", with("4u,0", "w10,u9,u9").pace(0, 0, 0), 44);
    }

    private static void runBrake() {
        says(14, "The BRAKE takes so many tenths of what is left then (rounded down)");
        CartsDownHill x = with("5,0", "w50,l1");
        x.brake(0, 3);
        // 29 of 99.
        due("pace(0, 0, 0)", x.pace(0, 0, 0), 70);
        due("pace(0, 0, 1)", x.pace(0, 0, 1), 69);
        x.brake(0, 9);
        due("89 of 99", x.pace(0, 0, 0), 10);
        x = with("0,0", "w50");
        x.brake(0, 9);
        due("nothing of 1", x.pace(0, 1, 0), 1);
        due("1 of 2", x.pace(0, 2, 0), 1);
        due("9 of 10", x.pace(0, 10, 0), 1);
        x.brake(0, 1);
        due("nothing of 9", x.pace(0, 9, 0), 9);
        due("1 of 10", x.pace(0, 10, 0), 9);
        says(14, "0, if nothing or less is left");
        x = with("0,0", "w50,l9,r9");
        x.brake(0, 9);
        due("less: the BRAKES took", x.lost(0, 1, -1), 0);
        due("nothing: the BRAKES took", x.lost(0, 27, -1), 0);
        runOf(x, 1, STANDS, 0, 0, 0);
        due("1 is left: nothing of it", x.lost(0, 28, -1), 0);
        due("2 are left: 1 of them", x.lost(0, 29, -1), 1);
        says(14, "the BRAKE comes ahead of LEAVES");
        x = with("0b9,0", "w50");
        x.brake(0, 1);
        // 111 less 11 is just bearable, 112 less 11 is not.
        due("at it", x.run(0, 111, 0), DOWN);
        due("above it", x.run(0, 112, 0), LEAVES);
    }

    private static void pace() {
        says(15, "NONE: it did not come there, or STANDS in it");
        CartsDownHill x = with("0,0,0", "w50,l3");
        int[][] want = {{0, NONE, NONE, NONE}, {3, NONE, NONE, NONE}, {4, 1, NONE, NONE}, {6, 3, NONE, NONE},
            {7, 4, 1, NONE}, {10, 7, 4, 1}};
        for (int[] w : want) {
            for (int cell = 0; cell < 3; cell++) {
                due("pace(0, " + w[0] + ", " + cell + ")", x.pace(0, w[0], cell), w[cell + 1]);
            }
        }
        says(15, "SWING in the end of a CELL in which it LEAVES");
        x = with("0,0b9,0", "w50");
        due("ahead of it", x.pace(0, 101, 0), 101);
        due("there", x.pace(0, 101, 1), 101);
        due("behind it", x.pace(0, 101, 2), NONE);
        says(15, "UNKNOWN: cart, cell; OUTSIDE: swing");
        due("cell 3", x.pace(0, -1, 3), UNKNOWN);
        due("cell -1", x.pace(0, 10000, -1), UNKNOWN);
        due("cart 1", x.pace(1, -1, 0), UNKNOWN);
        due("swing -1", x.pace(0, -1, 2), OUTSIDE);
        due("swing 10000", x.pace(0, 10000, 2), OUTSIDE);
        due("no HILL", with(null, "w10").pace(0, -1, 0), UNKNOWN);
    }

    private static void lost() {
        says(16, "in all CELLS (that in which it STANDS, too)");
        CartsDownHill x = with("0,0,0", "w50,l3,r1");
        // 6 is left 1, then it STANDS: both took twice; from 16 three times; from 5 and 0 once.
        int[][] want = {{0, 3, 2}, {5, 3, 2}, {6, 6, 4}, {10, 6, 4}, {11, 9, 6}, {16, 9, 6}, {9999, 9, 6}};
        for (int[] w : want) {
            due("l3 from " + w[0], x.lost(0, w[0], 0), w[1]);
            due("r1 from " + w[0], x.lost(0, w[0], 1), w[2]);
        }
        says(16, "of a CELL in which it LEAVES, too, and of none behind it");
        x = with("0,0b9,0", "w50,t1");
        // 1 and 1 + 9: 111 is left 100, 112 is left 101 and LEAVES.
        due("DOWN", x.lost(0, 111, 0), 12);
        due("LEAVES", x.lost(0, 112, 0), 11);
        says(16, "-1: the BRAKES");
        x = with("0,0", "w50");
        x.brake(0, 3);
        x.brake(1, 5);
        // 30 of 101, 35 of 71.
        due("both", x.lost(0, 101, -1), 65);
        due("both, asked again", x.lost(0, 101, -1), 65);
        due("without LOSSES 0 is none", x.lost(0, 101, 0), UNKNOWN);
        due("-2", x.lost(0, 101, -2), UNKNOWN);
        due("-1 of no CART", x.lost(1, 101, -1), UNKNOWN);
        says(16, "UNKNOWN: cart, loss; STATE; OUTSIDE");
        x = with(null, "w50,l1");
        due("no HILL", x.lost(0, 10000, 0), STATE);
        due("no HILL, the BRAKES", x.lost(0, -1, -1), STATE);
        due("no HILL, no LOSS", x.lost(0, 0, 1), UNKNOWN);
    }

    private static void brakesOf(CartsDownHill x, int swing, int... want) {
        for (int what = 0; what <= 4; what++) {
            due("bestBrakes(0, " + swing + ", " + what + ")", x.bestBrakes(0, swing, what), want[what]);
        }
    }

    private static void bestBrakes() {
        says(17, "NONE: there is none (fewer than four BENDS)");
        brakesOf(with("5,0", "w50"), 0, 200, NONE, NONE, NONE, NONE);
        brakesOf(with("5,0b1", "w50"), 0, 200, 0, NONE, NONE, NONE);
        brakesOf(with("5,0b1,0b1", "w50"), 0, 300, 0, 0, NONE, NONE);
        brakesOf(with("5,0b1,0b1,0b1", "w50"), 0, 400, 0, 0, 0, NONE);
        brakesOf(with("5,0b1,0b1,0b1,0b1", "w50"), 0, 500, 0, 0, 0, 0);
        brakesOf(with("5,0,0,0,0,0,0,0,0,0,0,0", "w50"), 0, 1200, NONE, NONE, NONE, NONE);
        brakesOf(with("5,0,0,0,0,0,0,0,0,0,0,0b1", "w50"), 0, 1200, 0, NONE, NONE, NONE);
        says(17, "the first four BENDS (a fifth one is not braked for)");
        // 101 would LEAVE in the fifth; 71 from CELL 3 on: three times 100, four times 125. From CELL 4 on: 775.
        brakesOf(with("0,0b1,0b1,0b1,0b1,0b9,0", "w50"), 101, 800, 0, 0, 0, 3);
        says(17, "none ahead of CELL 0: not braked");
        brakesOf(with("5b9,0b9", "w50"), 0, 200, NONE, 0, NONE, NONE);
        brakesOf(with("5b9,0,0b9", "w50"), 1, NONE, NONE, NONE, NONE, NONE);
        // Ahead of the second BEND is CELL 0, which is braked: 71 and 71.
        brakesOf(with("5b9,0b9", "w50"), 1, 250, NONE, 3, NONE, NONE);
        // CELL 0 is the first of the four, so CELL 4, ahead of the fifth, is not braked: 650.
        brakesOf(with("0b1,0,0b1,0b1,0b1,0b9", "w50"), 101, 675, NONE, 0, 0, 3);
        says(17, "just ahead of a BEND, which may be a BEND itself");
        // 120, then braked in the BEND to 84, which is bearable there: 100 and four times 111.
        brakesOf(with("6b1,0b9,0b1,0b1,0b1", "w50"), 0, 544, NONE, 0, 3, 0);
        says(17, "0 elsewhere");
        CartsDownHill x = with("5,0,0b1", "w50");
        x.brake(0, 9);
        x.brake(1, 9);
        x.brake(2, 9);
        brakesOf(x, 0, 300, 0, NONE, NONE, NONE);
        due("BRAKES stay", x.cell(0, 3) + x.cell(1, 3) + x.cell(2, 3), 27);
        says(17, "0, 3, 6 or 9 tenths");
        // Bearable are 100: 101 less 30, 142 less 42, 144 less 86, 250 less 150, 253 less 227, 1000 less 900.
        x = with("0,0b9", "w50");
        brakesOf(x, 100, 200, 0, NONE, NONE, NONE);
        brakesOf(x, 101, 250, 3, NONE, NONE, NONE);
        brakesOf(x, 142, 200, 3, NONE, NONE, NONE);
        brakesOf(x, 144, 284, 6, NONE, NONE, NONE);
        brakesOf(x, 250, 200, 6, NONE, NONE, NONE);
        brakesOf(x, 253, 400, 9, NONE, NONE, NONE);
        brakesOf(x, 1000, 200, 9, NONE, NONE, NONE);
        // 200 in each of four CELLS, of which 20 are left by 9 tenths and 22 are bearable: there is no other way.
        CartsDownHill steep = with("9,9b9,9b9,9b9,0b9", "w50");
        steep.grip(2);
        brakesOf(steep, 20, 1250, 9, 9, 9, 9);
        says(17, "NONE: by none it is DOWN");
        brakesOf(x, 1010, NONE, NONE, NONE, NONE, NONE);
        brakesOf(with("0,0b1", "w50,l9"), 18, NONE, NONE, NONE, NONE, NONE);
    }

    private static void bestBrakesOfLikeOnes() {
        says(17, "of like ones by the first of them, then the second and so on the least");
        // Nothing of 1 is braked off, by whatever way.
        brakesOf(with("0,0b1,0b1,0b1,0b1", "w50"), 1, 5000, 0, 0, 0, 0);
        // 143, 171, 191 and 101, 201, 221: 242 by 0, 3 and by 3, 0.
        brakesOf(with("3,5b4,1b4", "w50"), 83, 242, 0, 3, NONE, NONE);
        // 140, 72, 152 and 98, 97, 177: 298 by 0, 6 and by 3, 3.
        brakesOf(with("7,2b4,4b5", "w50"), 0, 298, 0, 6, NONE, NONE);
        // 84, 184, 143, 163 and 84, 129, 149, 169: 360 by 3, 0, 3 and by 3, 3, 0.
        brakesOf(with("6,5b2,1b2,1b5", "w50"), 0, 360, 3, 0, 3, NONE);
    }

    private static void bestPush() {
        says(18, "PUSHED for k (0 to 20) yards");
        CartsDownHill x = with("5,0", "w50");
        due("k 0", x.bestPush(0, 1, 0), 0);
        due("TIME of k 0", x.bestPush(0, 1, 1), 200);
        // 20 yards: 15, then 8 and 1; 19 yards: 14, 7, STANDS.
        x = with("0,0", "w13,l7", "w14,l7");
        due("k 20", x.bestPush(0, 1, 0), 20);
        due("TIME of k 20", x.bestPush(0, 1, 1), 2700);
        says(18, "NONE: by none it is DOWN");
        due("k 21 would be", x.bestPush(1, 1, 0), NONE);
        due("TIME of none", x.bestPush(1, 1, 1), NONE);
        says(18, "k times LEGS times 10 by WEIGHT (rounded down); each yard takes 60");
        // 10 by 99 is nothing, 99 times 10 by 99 is 10 a yard: 10, 20, 30, 40: twice 333, 250, 200, 166.
        x = with("0,0", "w99");
        due("LEGS 99: k", x.bestPush(0, 99, 0), 4);
        due("LEGS 99: TIME", x.bestPush(0, 99, 1), 572);
        due("LEGS 1: k", x.bestPush(0, 1, 0), 10);
        due("LEGS 1: TIME", x.bestPush(0, 1, 1), 2600);
        says(18, "of like ones the least");
        // 70 and 64: 250 and 60; 126 and 120: 190 and 120.
        x = with("1,0", "w17,l6");
        due("k 1, not 2", x.bestPush(0, 96, 0), 1);
        due("TIME", x.bestPush(0, 96, 1), 310);
    }

    private static void workOf(CartsDownHill x, int swing, int evenings, int... want) {
        for (int what = 0; what <= 5; what++) {
            due("work(0, " + swing + ", " + evenings + ", " + what + ")", x.work(0, swing, evenings, what), want[what]);
        }
    }

    private static void work() {
        says(19, "EVENINGS (0 to 6)");
        // From 10: l4 is left 6 and 2, l3 is left 7 and 4; l5 is left 5, STANDS.
        CartsDownHill x = with("0,0", "w50,l9");
        workOf(x, 10, 0, NONE, NONE, NONE, NONE, NONE, NONE);
        workOf(x, 10, 4, NONE, NONE, NONE, NONE, NONE, NONE);
        workOf(x, 10, 5, 1500, 5, NONE, NONE, NONE, NONE);
        workOf(x, 10, 6, 1000, 6, NONE, NONE, NONE, NONE);
        due("7", x.work(0, 10, 7, 0), OUTSIDE);
        due("-1", x.work(0, 10, -1, 0), OUTSIDE);
        due("n stays", x.loss(0, 0, 1), 9);
        workOf(x, 100, 0, 222, 0, NONE, NONE, NONE, NONE);
        workOf(x, 9, 3, NONE, NONE, NONE, NONE, NONE, NONE);
        // 7 off each time: 16 and 9 are left; by 5 and 1 evenings 15 and 7, by 4 and 1 13 and 3.
        workOf(with("0,0", "w50,r9,l1"), 23, 6, 583, 6, 0, NONE, NONE, NONE);
        says(19, "NONE: there is none");
        workOf(with("0,0", "w50"), 4, 6, 1000, NONE, NONE, NONE, NONE, NONE);
        workOf(with("0,0", "w50,l1,l1,l1,l1,l1"), 1, 5, 2000, 1, 1, 1, 1, 1);
        says(19, "takes 1 from n (0 at least)");
        workOf(with("0,0", "w50,l1"), 4, 6, 1000, 1, NONE, NONE, NONE, NONE);
        workOf(with("0,0", "w50,l1,r2"), 9, 6, 666, 1, 2, NONE, NONE, NONE);
        says(19, "so many or fewer");
        // From 8: 6 and 4, or 7 and 6, or 8 and 8: 1000 each, so none is used.
        workOf(with("0,0", "w50,l2"), 8, 6, 1000, 0, NONE, NONE, NONE, NONE);
        says(19, "of like ones by the first LOSS, then the second and so on the fewest evenings");
        x = with("0,0", "w50,l1,l1,l1");
        workOf(x, 6, 1, 1500, 0, 0, 1, NONE, NONE);
        workOf(x, 6, 2, 1000, 0, 1, 1, NONE, NONE);
        workOf(x, 6, 3, 1000, 0, 1, 1, NONE, NONE);
        // Two from the second do more than one from each.
        workOf(with("0,0", "w50,l2,r2"), 10, 2, 1000, 0, 2, NONE, NONE, NONE);
        says(19, "NONE: by none it is DOWN");
        workOf(with("0,0b9", "w50"), 101, 6, NONE, NONE, NONE, NONE, NONE, NONE);
        workOf(with("0,0", "w50,l4,l4"), 2, 6, NONE, NONE, NONE, NONE, NONE, NONE);
    }

    private static void weighed() {
        says(20, "weight (10 to 99)");
        CartsDownHill x = with("0,0", "w50,a9");
        // 100: 9 and 8 off by 10, 1 and nothing by 90, nothing by 91.
        due("10", x.weighed(0, 100, 10), 222);
        due("90", x.weighed(0, 100, 90), 222);
        due("91", x.weighed(0, 100, 91), 200);
        due("99", x.weighed(0, 100, 99), 200);
        due("9", x.weighed(0, 100, 9), OUTSIDE);
        due("100", x.weighed(0, 100, 100), OUTSIDE);
        due("WEIGHT stays", x.about(0, 0), 50);
        says(20, "NONE: it is not DOWN then");
        x = with("0,0b9", "w50,a9");
        // 109 is left 100 and 91 by 10; by 99 it is 109 and 109: it LEAVES.
        due("DOWN by 10", x.weighed(0, 109, 10), 211);
        due("LEAVES by 99", x.weighed(0, 109, 99), NONE);
        due("STANDS", x.weighed(0, 0, 10), NONE);
    }

    private static void close() {
        says(21, "limits 10 to 99; of like ones the greatest");
        CartsDownHill x = with("5,0", "w50");
        due("one CART: limit", x.close(0, 0), 99);
        due("one CART: difference", x.close(0, 1), 0);
        x = with("5b9,0", "w99,a9");
        // 109 less 9 by 10 is just bearable, less 8 by 11 is not.
        due("10", x.close(9, 0), 10);
        due("10: difference", x.close(9, 1), 0);
        says(21, "NONE: by none all are DOWN");
        due("limit", x.close(10, 0), NONE);
        due("difference", x.close(10, 1), NONE);
        x = with("0,0", "w50", "w50", "w50,l1");
        due("one STANDS", x.close(1, 0), NONE);
        due("one STANDS", x.close(2, 1), NONE);
        due("all are DOWN", x.close(3, 0), 99);
        says(21, "becomes the limit, if it is more");
        // By 90 and less the heavy one has 222, too; the light one stays as it is.
        x = with("5,0", "w99,a9", "w10,a9");
        due("limit", x.close(0, 0), 90);
        due("difference", x.close(0, 1), 0);
        says(21, "the greatest TIME less the least one");
        x = with("5,0", "w50,l1", "w50", "w50,l9,l9,l9");
        // 222, 200, and 73 and 46: 125 and 166.
        due("of three", x.close(0, 1), 91);
        due("of three: limit", x.close(0, 0), 99);
        CartsDownHill slow = with("0,0,0,0,0,0,0,0,0,0,0,0", "w50", "w60");
        due("the greatest TIME that there is", slow.run(0, 1, 2), 12000);
        due("of two of that TIME", slow.close(1, 1), 0);
        says(21, "STATE: no HILL, no CARTS; OUTSIDE: swing, what");
        due("no HILL", with(null, "w50").close(0, 0), STATE);
        due("no CARTS", with("5,0").close(0, 0), STATE);
        due("no CARTS, OUTSIDE", with("5,0").close(-1, 2), STATE);
        due("swing 9999", x.close(9999, 1) >= 0 ? 1 : 0, 1);
        due("swing 10000", x.close(10000, 1), OUTSIDE);
        due("what 2", x.close(0, 2), OUTSIDE);
    }

    private static void farthest() {
        says(22, "how many CELLS (0 to 999), until it STANDS in the next one");
        CartsDownHill x = with(null, "w50,l1", "w50", "w50,r9");
        int[][] want = {{0, 0}, {1, 0}, {2, 1}, {999, 998}, {1000, 999}, {1001, 999}, {9999, 999}};
        for (int[] w : want) {
            due("l1 from " + w[0], x.farthest(0, w[0]), w[1]);
        }
        due("without LOSSES from 0", x.farthest(1, 0), 0);
        due("without LOSSES from 1", x.farthest(1, 1), 999);
        due("r9 from 18", x.farthest(2, 18), 0);
        due("r9 from 19", x.farthest(2, 19), 1);
        due("r9 from 36", x.farthest(2, 36), 1);
        due("r9 from 37", x.farthest(2, 37), 2);
        says(22, "of DROP 0 (no BEND, no BUMP)");
        x = with("9b9,9u", "w50,t2", "w50,u9,l1", "w50,s9,l1", "w10,a9");
        due("TOED from 5", x.farthest(0, 5), 2);
        due("BUMPED and 1", x.farthest(1, 40), 39);
        due("TURNED and 1", x.farthest(2, 40), 39);
        due("AIRED never takes all", x.farthest(3, 9999), 999);
        says(22, "without brakes");
        x.brake(0, 9);
        x.brake(1, 9);
        due("TOED from 5", x.farthest(0, 5), 2);
        says(22, "UNKNOWN; OUTSIDE: swing");
        due("cart 4", x.farthest(4, -1), UNKNOWN);
        due("swing -1", x.farthest(0, -1), OUTSIDE);
        due("swing 10000", x.farthest(0, 10000), OUTSIDE);
    }

    private static void coast() {
        says(23, "so many CELLS (0 to 99) from a SWING");
        CartsDownHill x = with(null, "w50");
        due("0 CELLS, SWING 0", x.coast(0, 0, 0), 1);
        due("99 CELLS, SWING 9999", x.coast(0, 9999, 99), 2);
        due("100 CELLS", x.coast(0, 0, 100), OUTSIDE);
        due("-1 CELLS", x.coast(0, 0, -1), OUTSIDE);
        due("SWING 10000", x.coast(0, 10000, 0), OUTSIDE);
        due("SWING -1", x.coast(0, -1, 0), OUTSIDE);
        due("cart 1", x.coast(1, -1, -1), UNKNOWN);
        says(23, "COASTS (8 at most); FULL");
        for (int i = 3; i <= 8; i++) {
            due("so many", x.coast(0, i, i), i);
        }
        due("a ninth", x.coast(0, 1, 1), FULL);
        due("a ninth, OUTSIDE", x.coast(0, 1, 100), OUTSIDE);
        due("a ninth of no CART", x.coast(1, 1, 1), UNKNOWN);
        due("COASTS", x.count(3), 8);
    }

    private static void rubs() {
        says(24, "without COASTS all are so");
        due("no CARTS", new CartsDownHill().rubs(), 1023);
        due("a CART, a HILL", with("1,2", "w10,l9").rubs(), 1023);
        says(24, "n 0 to 9 (as bits)");
        CartsDownHill x = with(null, "w50,l1");
        // 100 is left 1 after 99 CELLS by l1 alone.
        due("coast()", x.coast(0, 100, 99), 1);
        due("0 alone", x.rubs(), 1);
        x = with(null, "w50");
        // 18 are rubbed off by 9; by 8 it would go through one CELL.
        due("coast()", x.coast(0, 18, 0), 1);
        due("9 alone", x.rubs(), 512);
        x = with(null, "w50");
        due("coast()", x.coast(0, 0, 0), 1);
        due("from 0 all", x.rubs(), 1023);
        x = with(null, "w50");
        due("coast()", x.coast(0, 199, 99), 1);
        due("1 alone: 198 are rubbed off", x.rubs(), 2);
        x = with(null, "w50,l1,l1,l1,l1,l1");
        // 30 less 5 and 2n: it goes through one CELL, if twice that takes all: 5 to 9.
        due("coast()", x.coast(0, 30, 1), 1);
        due("one RUBBED more than five", x.rubs(), 992);
        says(24, "by which all COASTS are so");
        // 24 less 5 and 2n goes through one by 4 to 9, 40 by 8 and 9.
        due("coast()", x.coast(0, 24, 1), 2);
        due("both", x.rubs(), 992);
        due("coast()", x.coast(0, 40, 1), 3);
        due("all three", x.rubs(), 768);
        due("coast()", x.coast(0, 40, 0), 4);
        due("none", x.rubs(), 0);
        says(24, "by which all COASTS are so: eight of two CARTS");
        x = with(null, "w50,r9", "w50,l9");
        for (int n = 1; n <= 8; n++) {
            // With n more 9 and 2n are rubbed off in the first CELL: all of 11 and 13 by 1 and by 2, and so on.
            due("coast()", x.coast(1, 9 + 2 * n, 0), n);
            due("n and more", x.rubs(), 1023 >> n << n);
        }
        says(24, "so many CELLS: neither more nor fewer");
        x = with(null, "w50");
        // 10 goes through four CELLS by 1, two by 2 (6 and 2 are left), one by 3 and 4.
        due("coast()", x.coast(0, 10, 2), 1);
        due("two CELLS", x.rubs(), 4);
    }

    // ---- heats

    private static void chance() {
        says(25, "5, and 1 for each so many hundreds by which its TIME is less (rounded down)");
        // From 4: 1000 and 2000.
        CartsDownHill x = with("0,0", "w50", "w50,l1", "w50,l3", "w60,l3", "w60");
        int[][] want = {{99, 5}, {11, 5}, {10, 6}, {6, 6}, {5, 7}, {4, 7}, {3, 8}, {2, 10}};
        for (int[] w : want) {
            due("slip " + w[0], x.chance(0, 1, 4, w[0]), w[1]);
            due("slip " + w[0] + ", the other one has what lacks of 10", x.chance(1, 0, 4, w[0]), 10 - w[1]);
        }
        // From 65: 267 and 366; from 25: 400 and 500.
        CartsDownHill y = with("0,0", "w50", "w50,l1", "w50,r9");
        due("99 less, slip 1", y.chance(1, 2, 65, 1), 5);
        due("100 less, slip 1", y.chance(0, 1, 25, 1), 6);
        due("100 less, slip 2", y.chance(0, 1, 25, 2), 5);
        due("100 more, slip 1", y.chance(1, 0, 25, 1), 4);
        says(25, "10 at most");
        due("five hundreds, slip 1", y.chance(0, 1, 5, 1), 10);
        due("ten hundreds, slip 1", x.chance(0, 1, 4, 1), 10);
        due("the other one", x.chance(1, 0, 4, 1), 0);
        due("like ones", x.chance(0, 4, 4, 1), 5);
        due("one against itself", x.chance(0, 0, 4, 1), 5);
        says(25, "One that is not DOWN has 0 against one that is; two that are not 5");
        due("not DOWN against DOWN", x.chance(2, 1, 4, 99), 0);
        due("DOWN against not DOWN", x.chance(1, 2, 4, 99), 10);
        due("two that are not", x.chance(2, 3, 4, 1), 5);
        // 101 LEAVES in the last CELL with less TIME than the one that is DOWN.
        x = with("0,0b9", "w50", "w50,l1");
        due("LEAVES", x.chance(0, 1, 101, 1), 0);
        due("against one that LEAVES", x.chance(1, 0, 101, 1), 10);
        says(25, "UNKNOWN: a, b; STATE; OUTSIDE: swing, slip");
        due("a", x.chance(2, 0, -1, 0), UNKNOWN);
        due("b", x.chance(0, 2, -1, 0), UNKNOWN);
        due("slip 0", x.chance(0, 1, 4, 0), OUTSIDE);
        due("slip 100", x.chance(0, 1, 4, 100), OUTSIDE);
        due("no HILL", with(null, "w50", "w60").chance(0, 1, -1, 0), STATE);
    }

    /** From 4: TIMES 1000, 2000, not DOWN, 1000. By slip 3 the first beats the second in 8 tenths. */
    private static CartsDownHill four() {
        return with("0,0", "w50", "w50,l1", "w50,l3", "w60");
    }

    /** From 10: TIMES 666, 833, 1000, 1500. By slip 2 the first has 5, 6 and 9, the second 5 and 8, the third 7. */
    private static CartsDownHill uneven() {
        return with("0,0", "w50", "w50,l1", "w50,l2", "w50,l4");
    }

    private static void wins() {
        says(26, "in lowest terms: part 0 above, 1 below");
        CartsDownHill x = four();
        // 8 by 10 times 5; 2 by 10 times 2; nothing; 10 by (8 times 5 and 2 times 8).
        int[][] want = {{2, 5}, {1, 25}, {0, 1}, {14, 25}};
        for (int which = 0; which <= 3; which++) {
            due("above, " + which, x.wins(0, 1, 2, 3, 4, 3, which, 0), want[which][0]);
            due("below, " + which, x.wins(0, 1, 2, 3, 4, 3, which, 1), want[which][1]);
        }
        CartsDownHill y = uneven();
        int[] above = {69, 59, 63, 9};
        for (int which = 0; which <= 3; which++) {
            due("above, " + which, y.wins(0, 1, 2, 3, 10, 2, which, 0), above[which]);
            due("below, " + which, y.wins(0, 1, 2, 3, 10, 2, which, 1), 200);
        }
        says(26, "those that are not DOWN");
        // From 0 none is DOWN: a quarter each.
        for (int which = 0; which <= 3; which++) {
            due("above, " + which, x.wins(0, 1, 2, 3, 0, 3, which, 0), 1);
            due("below, " + which, x.wins(0, 1, 2, 3, 0, 3, which, 1), 4);
        }
        x = with("0,0", "w50,l3", "w50", "w51,l3", "w52,l3");
        due("the only one that is DOWN wins surely: above", x.wins(0, 1, 2, 3, 4, 3, 1, 0), 1);
        due("below", x.wins(0, 1, 2, 3, 4, 3, 1, 1), 1);
        due("another one: above", x.wins(0, 1, 2, 3, 4, 3, 3, 0), 0);
        due("below", x.wins(0, 1, 2, 3, 4, 3, 3, 1), 1);
        says(26, "STATE: two are the same");
        due("c and d", x.wins(0, 1, 2, 2, 4, 3, 0, 0), STATE);
        due("a and d", x.wins(0, 1, 2, 0, -1, 0, 4, 2), STATE);
        due("and one is UNKNOWN", x.wins(0, 0, 4, 3, 4, 3, 0, 0), UNKNOWN);
    }

    private static void plan() {
        says(27, "of like ones the first told");
        // The first wins in 40, 56, 40 hundredths; the last, which is as quick, would in 56, 40, 40.
        CartsDownHill x = four();
        due("first of two", x.plan(0, 1, 2, 3, 4, 3), 1);
        due("told last", x.plan(3, 1, 2, 0, 4, 3), 1);
        says(27, "of the three ways that by which the one of least TIME wins likeliest");
        // In 345, 348 and 495 thousandths, if it meets the second, the third and the slowest one first.
        CartsDownHill u = uneven();
        for (int all = 0; all < 256; all++) {
            int[] c = {all >> 6, all >> 4 & 3, all >> 2 & 3, all & 3};
            int placeOfQuickest = 0;
            int placeOfSlowest = 0;
            int seen = 0;
            for (int i = 0; i < 4; i++) {
                seen |= 1 << c[i];
                placeOfQuickest = c[i] == 0 ? i : placeOfQuickest;
                placeOfSlowest = c[i] == 3 ? i : placeOfSlowest;
            }
            // Places 0 and 1, or 2 and 3, meet by 0; 0 and 2, or 1 and 3, by 1; 0 and 3, or 1 and 2, by 2.
            int want = seen == 15 ? (placeOfQuickest ^ placeOfSlowest) - 1 : STATE;
            due("plan of " + c[0] + c[1] + c[2] + c[3], u.plan(c[0], c[1], c[2], c[3], 10, 2), want);
        }
        says(27, "those that are not DOWN behind all");
        // One that STANDS in CELL 0 has TIME 0, and is told first.
        CartsDownHill y = with("0,0", "w50,r9", "w50,l1", "w50", "w51,l1");
        // The third one: against the first surely, then 8 tenths; against the second or fourth 8 tenths, then at most 8.
        due("not DOWN, told first", y.plan(0, 1, 2, 3, 4, 3), 1);
        due("not DOWN, told second", y.plan(1, 0, 2, 3, 4, 3), 2);
        due("not DOWN, told last", y.plan(2, 1, 3, 0, 4, 3), 2);
        says(27, "none is DOWN");
        due("from 0", x.plan(0, 1, 2, 3, 0, 3), 0);
        says(27, "of like ones the first");
        x = with("0,0", "w50", "w51", "w52", "w53");
        due("all alike", x.plan(0, 1, 2, 3, 4, 3), 0);
        x = with("0,0", "w50", "w51,l3", "w52,l3", "w53,l3");
        due("surely by all", x.plan(3, 2, 1, 0, 4, 3), 0);
        says(27, "UNKNOWN; STATE; OUTSIDE, as wins()");
        due("two the same", x.plan(0, 1, 1, 3, -1, 0), STATE);
        due("UNKNOWN", x.plan(0, 1, 1, 4, -1, 0), UNKNOWN);
        due("slip 0", x.plan(0, 1, 2, 3, 4, 0), OUTSIDE);
        due("slip 100", x.plan(0, 1, 2, 3, 4, 100), OUTSIDE);
    }

    private static void staysOf(CartsDownHill x, int swing, int shake, int straw, long above, long below) {
        String call = "stays(0, " + swing + ", " + shake + ", " + straw + ")";
        due(call + " above", x.stays(0, swing, shake, straw, 0), above);
        due(call + " below", x.stays(0, swing, shake, straw, 1), below);
    }

    private static void staysTenths() {
        says(28, "P in tenths of what is bearable there (rounded down), rounded down, too");
        // Bearable are 128: 120 by 128 is 0, 130 by 128 is 1, 1270 by 128 is 9.
        CartsDownHill x = with("0,0b7", "w50");
        staysOf(x, 12, 1, 0, 1, 1);
        staysOf(x, 13, 1, 0, 99, 100);
        staysOf(x, 25, 1, 0, 99, 100);
        staysOf(x, 26, 1, 0, 49, 50);
        staysOf(x, 127, 1, 0, 91, 100);
        staysOf(x, 128, 1, 0, 9, 10);
        says(28, "10 at most: surely, if SWING is above that");
        staysOf(x, 128, 9, 0, 1, 10);
        staysOf(x, 129, 9, 0, 0, 1);
        staysOf(x, 129, 0, 0, 0, 1);
        staysOf(x, 9999, 1, 0, 0, 1);
        says(28, "With a SHAKE (0 to 9)");
        staysOf(x, 128, 0, 0, 1, 1);
        due("shake 10", x.stays(0, 128, 10, 0, 0), OUTSIDE);
        due("shake -1", x.stays(0, 128, -1, 0, 0), OUTSIDE);
        says(28, "straw (0 to 15)");
        staysOf(x, 128, 9, 15, 1, 1);
        staysOf(x, 128, 9, 1, 1, 1);
        staysOf(x, 128, 9, 14, 1, 10);
        due("straw 16", x.stays(0, 128, 9, 16, 0), OUTSIDE);
        due("straw -1", x.stays(0, 128, 9, -1, 0), OUTSIDE);
    }

    private static void staysWhere() {
        says(28, "of the first four BENDS");
        CartsDownHill x = with("0b1,0b1,0b1,0b1,0b9", "w50");
        // 90 of 900 is P 1 in four of them; 101 would LEAVE in the fifth.
        staysOf(x, 90, 1, 0, 96059601, 100000000);
        staysOf(x, 101, 1, 0, 96059601, 100000000);
        staysOf(x, 101, 1, 15, 1, 1);
        staysOf(x, 101, 1, 7, 99, 100);
        staysOf(x, 101, 1, 8, 970299, 1000000);
        says(28, "that have no straw: bit 0 is the first BEND");
        x = with("0,0b1,0,0b9,0b3", "w50");
        // 90 of 900, 100 and 300 are P 1, 9 and 3.
        staysOf(x, 90, 1, 6, 99, 100);
        staysOf(x, 90, 1, 5, 91, 100);
        staysOf(x, 90, 1, 3, 97, 100);
        staysOf(x, 90, 1, 8, 873873, 1000000);
        says(28, "to which the RUN comes (it ends as told above)");
        x = with("0,0b9,0b9,0b9", "w50");
        // It LEAVES in the first; straw there does not carry it on to the second.
        staysOf(x, 101, 9, 1, 1, 1);
        staysOf(x, 101, 9, 14, 0, 1);
        says(28, "not one in which it STANDS");
        // 90 is lost in each: 10 of 100, then it STANDS; 100 of 100, 10 of 100, then it STANDS.
        x = with("5b9,0b9,0b9", "w50,t9");
        staysOf(x, 0, 9, 0, 91, 100);
        staysOf(x, 90, 9, 0, 91, 1000);
        says(28, "there is no BEND");
        staysOf(with("5,0", "w50"), 0, 9, 0, 1, 1);
        staysOf(with("0,0", "w50"), 0, 9, 0, 1, 1);
        staysOf(with("5,0,0,0,0,0,0,0,0,0,0,0", "w50"), 0, 9, 0, 1, 1);
    }

    private static void strawOf(CartsDownHill x, int swing, int shake, int... want) {
        for (int k = 1; k <= 4; k++) {
            due("straw(0, " + swing + ", " + shake + ", " + k + ")", x.straw(0, swing, shake, k), want[k - 1]);
        }
    }

    private static void straw() {
        says(29, "STATE: there are fewer than k BENDS");
        strawOf(with("5,0", "w50"), 0, 1, STATE, STATE, STATE, STATE);
        strawOf(with("5,0b9", "w50"), 0, 1, 1, STATE, STATE, STATE);
        strawOf(with("5,0b9,0b9", "w50"), 0, 1, 1, 3, STATE, STATE);
        strawOf(with("5,0b9,0b9,0b9", "w50"), 0, 1, 1, 3, 7, STATE);
        strawOf(with("5,0b9,0b9,0b9,0b9", "w50"), 0, 1, 1, 3, 7, 15);
        says(29, "of these four: a fifth BEND has none");
        strawOf(with("5,0b1,0b1,0b1,0b1,0b9", "w50"), 1, 1, 1, 3, 7, 15);
        says(29, "that by which it STAYS likeliest");
        // 90 of 900, 450, 100 and 300: P 1, 2, 9 and 3.
        strawOf(with("0,0b1,0b2,0b9,0b3", "w50"), 90, 1, 4, 12, 14, 15);
        // It LEAVES in the third, surely without straw; the fourth does not count.
        strawOf(with("0,0b1,0b2,0b9,0b3", "w50"), 101, 1, 4, 6, 7, 15);
        says(29, "of like ones of least bits");
        strawOf(with("0,0b1,0b2,0b9,0b3", "w50"), 90, 0, 1, 3, 7, 15);
        strawOf(with("0,0b1,0b2,0b9,0b3", "w50"), 101, 0, 4, 5, 7, 15);
        strawOf(with("0,0b1,0b9,0b1,0b9", "w50"), 90, 1, 2, 10, 11, 15);
        // It does not come to any.
        strawOf(with("0,0b1,0b2,0b9,0b3", "w50"), 0, 9, 1, 3, 7, 15);
        says(29, "UNKNOWN; STATE: no HILL; OUTSIDE: swing, shake, k (1 to 4)");
        CartsDownHill x = with("5,0b9", "w50");
        due("k 0", x.straw(0, 0, 0, 0), OUTSIDE);
        due("k 5", x.straw(0, 0, 0, 5), OUTSIDE);
        due("shake 10, and fewer BENDS", x.straw(0, 0, 10, 4), OUTSIDE);
        due("cart 1, and fewer BENDS", x.straw(1, 0, 0, 4), UNKNOWN);
        due("no HILL", with(null, "w50").straw(0, -1, 10, 5), STATE);
    }

    // ---- what is told

    private static void image() {
        says(30, "STATE: there is no HILL");
        CartsDownHill x = with(null, "w10", "w20");
        due("image()", x.image(), STATE);
        write(x, "1,2");
        due("hill()", x.hill(), 2);
        due("none was kept by that", x.restore(), STATE);
        says(30, "how many CARTS");
        due("two", x.image(), 2);
        due("none", with("1,2").image(), 0);
        due("eight", with("1,2", "w10", "w10", "w10", "w10", "w10", "w10", "w10", "w10").image(), 8);
        says(30, "one; the latest");
        x.grip(20);
        due("image()", x.image(), 2);
        x.grip(30);
        due("restore()", x.restore(), 2);
        due("GRIP", x.count(6), 20);
        due("restore() again", x.restore(), 2);
        due("GRIP", x.count(6), 20);
    }

    private static void restore() {
        says(31, "STATE: none was kept");
        due("new", new CartsDownHill().restore(), STATE);
        due("with a HILL", with("1,2", "w10").restore(), STATE);
        says(31, "It goes on from the IMAGE: GRIP, BRAKES, CARTS' WEIGHTS, COASTS");
        CartsDownHill x = with("1,2,3,4,5,6,7,8,9,0,1,2", "w10,l1", "w20");
        x.grip(99);
        x.coast(0, 7, 6);
        x.brake(0, 1);
        x.brake(11, 9);
        due("image()", x.image(), 2);
        long then = x.digest();
        x.grip(1);
        x.coast(1, 8, 5);
        x.brake(0, 2);
        x.brake(5, 5);
        x.brake(11, 0);
        x.weigh(0, 98);
        x.weigh(1, 99);
        due("restore()", x.restore(), 2);
        due("as it was then", x.digest(), then);
        due("coast()", x.coast(1, 1, 1), 2);
        due("restore()", x.restore(), 2);
        due("the IMAGE did not change", x.digest(), then);
        says(31, "THE PAGE is not kept");
        write(x, "abc");
        due("restore()", x.restore(), 2);
        due("letters", x.count(4), 3);
        says(31, "CARTS that came since stay as they are");
        x.blank();
        write(x, "w30,r1");
        due("cart()", x.cart(), 2);
        x.weigh(2, 33);
        x.coast(2, 9, 9);
        due("restore(): how many CARTS", x.restore(), 3);
        due("WEIGHT", x.about(2, 0), 33);
        due("LOSSES", x.about(2, 1), 1);
        due("its COAST is gone", x.count(3), 1);
        says(31, "an IMAGE without CARTS and COASTS");
        x = with("1,2");
        due("image()", x.image(), 0);
        write(x, "w30");
        due("cart()", x.cart(), 0);
        x.coast(0, 1, 1);
        due("restore()", x.restore(), 1);
        due("WEIGHT", x.about(0, 0), 30);
        due("COASTS", x.count(3), 0);
        says(31, "from eight COASTS, and back to them");
        for (int i = 1; i <= 8; i++) {
            due("coast()", x.coast(0, i, i), i);
        }
        due("image()", x.image(), 1);
        due("restore()", x.restore(), 1);
        due("a ninth", x.coast(0, 1, 1), FULL);
    }

    private static void restoreAnotherHill() {
        says(31, "STATE: there is another HILL since");
        CartsDownHill x = with("1,2", "w10");
        due("image()", x.image(), 1);
        x.weigh(0, 20);
        write(x, "3,4,5");
        due("hill()", x.hill(), 3);
        x.brake(2, 7);
        due("restore()", x.restore(), STATE);
        due("WEIGHT", x.about(0, 0), 20);
        due("BRAKE", x.cell(2, 3), 7);
        write(x, "1,2");
        due("the same text is another HILL", x.hill(), 2);
        due("restore()", x.restore(), STATE);
        due("image()", x.image(), 1);
        due("restore()", x.restore(), 1);
        says(31, "a text that is no HILL is none since");
        write(x, "3,");
        due("hill()", x.hill(), STATE);
        due("restore()", x.restore(), 1);
    }

    private static void count() {
        says(32, "How many: 0 to 6");
        CartsDownHill x = with("0b1,0b1,0b1,0b1,0b1,0b1,0b1,0b1,0b1,0b1,0b1,0b1", "w10", "w10", "w10");
        x.coast(0, 0, 0);
        x.grip(77);
        write(x, "x".repeat(50));
        int[] want = {12, 12, 3, 1, 50, 1, 77};
        for (int what = 0; what <= 6; what++) {
            due("count(" + what + ")", x.count(what), want[what]);
        }
        says(32, "OUTSIDE");
        due("count(7)", x.count(7), OUTSIDE);
        due("count(-1)", x.count(-1), OUTSIDE);
    }

    private static long sum(long h, long... numbers) {
        for (long number : numbers) {
            h = 31 * h + number;
        }
        return h;
    }

    private static void digest() {
        says(33, "without a HILL, CARTS, COASTS and letters");
        due("new", new CartsDownHill().digest(), sum(491, 1023, 0, 0, 0, 0, 0, 0, 9));
        says(33, "with a HILL what run() tells");
        CartsDownHill x = with(null, "w50");
        due("without", x.digest(), sum(491, 50, 0, 999, 1023, 0, 0, 1, 0, 0, 0, 9));
        write(x, "0,0");
        due("hill()", x.hill(), 2);
        long want = sum(491, 0, 0, 0, 0, 0, 0, 0, 0);
        due("with", x.digest(), sum(want, 50, 0, 999, 0, 1, 200, 100, 1023, 2, 0, 1, 0, 0, 1, 9));
        says(33, "of each LOSS, of each COAST, each letter; FARTHEST from 400");
        x = with(null, "w99,l1", "w10,l8,r7,t6,a5,u4");
        for (int i = 1; i <= 8; i++) {
            due("coast()", x.coast(i % 2, 9990 + i, 90 + i), i);
        }
        write(x, "z".repeat(50));
        want = sum(491, 99, 1, 0, 1, 399);
        // 28 and a twentieth of what is left: 352, 307, 264, 223, 184, 147, 112, 79, 48, 18.
        want = sum(want, 10, 5, 0, 8, 1, 7, 2, 6, 3, 5, 4, 4, 10);
        for (int i = 1; i <= 8; i++) {
            want = sum(want, i % 2, 9990 + i, 90 + i);
        }
        want = sum(want, 0);
        for (int i = 0; i < 50; i++) {
            want = sum(want, 'z');
        }
        due("all of it", x.digest(), sum(want, 0, 0, 2, 8, 50, 0, 9));
        says(33, "as longs, wrapping");
        x = with("9b9,9b9,9b9,9b9,9b9,9b9,9b9,9b9,9b9,9b9,9b9,9b9");
        BigInteger h = BigInteger.valueOf(491);
        for (int cell = 0; cell < 12; cell++) {
            h = big(h, 9, 9, 0, 0);
        }
        h = big(h, 1023, 12, 12, 0, 0, 0, 1, 9);
        due("twelve CELLS", x.digest(), h.longValue());
    }

    private static BigInteger big(BigInteger from, int... numbers) {
        BigInteger h = from;
        for (int number : numbers) {
            h = h.multiply(BigInteger.valueOf(31)).add(BigInteger.valueOf(number));
        }
        return h;
    }
}
