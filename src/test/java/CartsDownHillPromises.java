// Each promise by itself: answers worked out by hand from the document, its edges, and wrong inputs.
public final class CartsDownHillPromises {
    private static final int NONE = -1, UNKNOWN = -101, OUTSIDE = -102, STATE = -103, FULL = -104;
    private static final int MIN = Integer.MIN_VALUE, MAX = Integer.MAX_VALUE;

    private static int wrong = 0;
    private static int asked = 0;
    private static int promise = 0;

    private static void due(String call, long got, long want) {
        asked++;
        if (got != want) {
            wrong++;
            System.out.println("promise " + promise + ": " + call + " answered " + got + ", due is " + want);
        }
    }

    private static void write(CartsDownHill x, String text) {
        for (int from = 0; from < text.length(); from += 8) {
            long w = 0;
            for (int i = Math.min(text.length(), from + 8) - 1; i >= from; i--) {
                w = w << 8 | text.charAt(i);
            }
            x.letters(w);
        }
    }

    /** A new object with a HILL (none, if it is null) and CARTS. */
    private static CartsDownHill with(String hill, String... carts) {
        CartsDownHill x = new CartsDownHill();
        if (hill != null) {
            write(x, hill);
            due("hill() of " + hill, x.hill(), hill.split(",").length);
        }
        for (int i = 0; i < carts.length; i++) {
            write(x, carts[i]);
            due("cart() of " + carts[i], x.cart(), i);
        }
        return x;
    }

    public static void main(String[] args) {
        newObject();
        letters();
        blank();
        fault();
        hill();
        cart();
        cell();
        about();
        loss();
        as();
        weigh();
        grip();
        brake();
        run();
        pace();
        lost();
        bestBrakes();
        bestPush();
        work();
        weighed();
        close();
        farthest();
        coast();
        rubs();
        chance();
        wins();
        plan();
        stays();
        straw();
        image();
        restore();
        count();
        digest();
        System.out.println(asked + " answers, " + wrong + " wrong");
        if (wrong != 0) {
            System.exit(1);
        }
    }

    private static void newObject() {
        promise = 1;
        CartsDownHill x = new CartsDownHill();
        for (int what = 0; what <= 5; what++) {
            due("count(" + what + ")", x.count(what), 0);
        }
        due("count(6)", x.count(6), 9);
        due("cell(0, 0)", x.cell(0, 0), UNKNOWN);
        due("about(0, 0)", x.about(0, 0), UNKNOWN);
        due("run(0, 0, 0)", x.run(0, 0, 0), UNKNOWN);
        due("image()", x.image(), STATE);
        due("restore()", x.restore(), STATE);
        due("hill()", x.hill(), STATE);
        due("cart()", x.cart(), STATE);
    }

    private static void letters() {
        promise = 2;
        CartsDownHill x = new CartsDownHill();
        due("letters(0)", x.letters(0), 0);
        due("letters('3')", x.letters('3'), 1);
        due("letters(',', '4')", x.letters(',' | '4' << 8), 3);
        due("fault(0) of 3,4", x.fault(0), 3);
        due("hill() of 3,4", x.hill(), 2);
        due("cell(0, 0)", x.cell(0, 0), 3);
        due("cell(1, 0)", x.cell(1, 0), 4);
        due("126", x.letters(126), 1);
        due("127", x.letters(127), OUTSIDE);
        due("255 at the eighth place", x.letters(0xFF01010101010101L), OUTSIDE);
        due("128 at the eighth place", x.letters(Long.MIN_VALUE), OUTSIDE);
        due("behind a 0", x.letters(0x010001L), OUTSIDE);
        due("first byte 0", x.letters(0x0100L), OUTSIDE);
        due("after refusals", x.count(4), 1);
        for (int i = 1; i <= 6; i++) {
            due("eight letters", x.letters(0x0101010101010101L), 1 + 8 * i);
        }
        due("two above 50", x.letters(0x0101L), FULL);
        due("outside, and above 50", x.letters(0x7F01L), OUTSIDE);
        due("after FULL", x.count(4), 49);
        due("the 50th", x.letters(1), 50);
        due("the 51st", x.letters(1), FULL);
        due("none more", x.letters(0), 50);
    }

    private static void blank() {
        promise = 3;
        CartsDownHill x = new CartsDownHill();
        due("blank()", x.blank(), 0);
        write(x, "3,4b2,7");
        due("blank()", x.blank(), 7);
        due("count(4)", x.count(4), 0);
        due("blank()", x.blank(), 0);
        due("hill()", x.hill(), STATE);
    }

    private static void faultOf(String text, int hillFault, int cartFault) {
        CartsDownHill x = new CartsDownHill();
        write(x, text);
        due("fault(0) of " + text, x.fault(0), hillFault);
        due("fault(1) of " + text, x.fault(1), cartFault);
    }

    private static void fault() {
        promise = 4;
        faultOf("", 0, 0);
        faultOf("3", 1, 0);
        faultOf("3,", 2, 0);
        faultOf("3,,", 2, 0);
        faultOf("34", 1, 0);
        faultOf("3b", 2, 0);
        faultOf("3b0", 2, 0);
        faultOf("3b9", 3, 0);
        faultOf("3b91", 3, 0);
        faultOf("3b9u", 3, 0);
        faultOf("3b9b", 3, 0);
        faultOf("3b,", 2, 0);
        faultOf("3u", 2, 0);
        faultOf("3ub", 2, 0);
        faultOf("3uu", 2, 0);
        faultOf("3u4", 2, 0);
        faultOf("3u,0", 4, 0);
        faultOf("u", 0, 0);
        faultOf("b", 0, 0);
        faultOf(",", 0, 0);
        faultOf("0,1,2,3,4,5,6,7,8,9,0,1", 23, 0);
        faultOf("0,1,2,3,4,5,6,7,8,9,0,1b", 24, 0);
        faultOf("0,1,2,3,4,5,6,7,8,9,0,1,", 23, 0);
        faultOf("0b1,1b1,2b1,3b1,4b1,5b1,6b1,7b1,8b1,9b1,0b1,1b1", 47, 0);
        faultOf("0b1,1b1,2b1,3b1,4b1,5b1,6b1,7b1,8b1,9b1,0b1,1b1,2", 47, 0);
        faultOf("w", 0, 1);
        faultOf("W", 0, 0);
        faultOf("w0", 0, 1);
        faultOf("w1", 0, 2);
        faultOf("w1,", 0, 2);
        faultOf("w10", 0, 3);
        faultOf("w99", 0, 3);
        faultOf("w100", 0, 3);
        faultOf("w10,", 0, 4);
        faultOf("w10,b", 0, 4);
        faultOf("w10,w", 0, 4);
        faultOf("w10,l", 0, 5);
        faultOf("w10,l0", 0, 5);
        faultOf("w10,l9", 0, 6);
        faultOf("w10,l99", 0, 6);
        faultOf("w10,l1,r2,t3,a4,u5", 0, 18);
        faultOf("w10,s1,s2,s3,s4,s5,", 0, 18);
        faultOf("w10,s1,s2,s3,s4,s5,s", 0, 18);
        CartsDownHill x = new CartsDownHill();
        due("fault(2)", x.fault(2), OUTSIDE);
        due("fault(-1)", x.fault(-1), OUTSIDE);
        due("fault(MIN)", x.fault(MIN), OUTSIDE);
        due("fault(MAX)", x.fault(MAX), OUTSIDE);
    }

    private static void noHill(String text) {
        CartsDownHill x = with("1,2", "w10");
        write(x, text);
        due("hill() of " + text, x.hill(), STATE);
        due("letters after it", x.count(4), text.length());
        due("CELLS after it", x.count(0), 2);
        due("HILLS read", x.count(5), 1);
    }

    private static void hill() {
        promise = 5;
        noHill("");
        noHill("3");
        noHill("3b2");
        noHill("3u");
        noHill("3,");
        noHill("3,4b");
        noHill("3,4b0");
        noHill("3,4,");
        noHill("3,44");
        noHill("w10");
        noHill("0,1,2,3,4,5,6,7,8,9,0,1,2");
        CartsDownHill x = with("0,1,2,3,4,5,6,7,8,9b9,0u,1", "w10");
        due("letters", x.count(4), 0);
        due("SHARP of 9", x.cell(9, 1), 9);
        due("BUMP of 10", x.cell(10, 2), 1);
        due("brake(9, 4)", x.brake(9, 4), 0);
        due("brake(0, 5)", x.brake(0, 5), 0);
        due("grip(20)", x.grip(20), 9);
        due("coast(0, 5, 5)", x.coast(0, 5, 5), 1);
        write(x, "7,8u,9b3,0,1,2,3,4,5,6,7");
        due("another hill()", x.hill(), 11);
        for (int c = 0; c < 11; c++) {
            due("DROP of " + c, x.cell(c, 0), (7 + c) % 10);
            due("SHARP of " + c, x.cell(c, 1), c == 2 ? 3 : 0);
            due("BUMP of " + c, x.cell(c, 2), c == 1 ? 1 : 0);
            due("BRAKE of " + c, x.cell(c, 3), 0);
        }
        due("cell(11, 0)", x.cell(11, 0), UNKNOWN);
        due("HILLS read", x.count(5), 2);
        due("GRIP stays", x.count(6), 20);
        due("CARTS stay", x.count(2), 1);
        due("COASTS stay", x.count(3), 1);
    }

    private static void noCart(String text) {
        CartsDownHill x = with(null, "w10");
        write(x, text);
        due("cart() of " + text, x.cart(), STATE);
        due("letters after it", x.count(4), text.length());
        due("CARTS after it", x.count(2), 1);
    }

    private static void cart() {
        promise = 6;
        noCart("");
        noCart("w");
        noCart("w1");
        noCart("w09");
        noCart("w100");
        noCart("w10,");
        noCart("w10,l");
        noCart("w10,l0");
        noCart("w10,x1");
        noCart("w10l1");
        noCart("w10,l1,l1,l1,l1,l1,l1");
        noCart("3,4");
        CartsDownHill x = with(null, "w10", "w99,l1,r2,t3,a4,u5", "w57,s9", "w10", "w10", "w10", "w10", "w10,t1,t1");
        due("letters", x.count(4), 0);
        write(x, "w10");
        due("the ninth", x.cart(), FULL);
        due("letters stay", x.count(4), 3);
        due("CARTS", x.count(2), 8);
        due("hill() of a cart", x.hill(), STATE);
        write(x, "x");
        due("STATE ahead of FULL", x.cart(), STATE);
    }

    private static void cell() {
        promise = 7;
        CartsDownHill x = new CartsDownHill();
        due("without a HILL", x.cell(0, 9), UNKNOWN);
        x = with("3b5,0u,9");
        int[][] want = {{3, 5, 0, 0}, {0, 0, 1, 7}, {9, 0, 0, 0}};
        due("brake(1, 7)", x.brake(1, 7), 0);
        for (int c = 0; c < 3; c++) {
            for (int what = 0; what <= 3; what++) {
                due("cell(" + c + ", " + what + ")", x.cell(c, what), want[c][what]);
            }
        }
        due("cell(-1, 0)", x.cell(-1, 0), UNKNOWN);
        due("cell(3, 0)", x.cell(3, 0), UNKNOWN);
        due("cell(12, 9)", x.cell(12, 9), UNKNOWN);
        due("cell(0, 4)", x.cell(0, 4), OUTSIDE);
        due("cell(0, -1)", x.cell(0, -1), OUTSIDE);
        due("cell(MAX, MIN)", x.cell(MAX, MIN), UNKNOWN);
    }

    private static void about() {
        promise = 8;
        CartsDownHill x = with(null, "w10", "w99,l1,l1,l1,l1,l1");
        due("about(0, 0)", x.about(0, 0), 10);
        due("about(0, 1)", x.about(0, 1), 0);
        due("about(1, 0)", x.about(1, 0), 99);
        due("about(1, 1)", x.about(1, 1), 5);
        due("about(2, 0)", x.about(2, 0), UNKNOWN);
        due("about(-1, 9)", x.about(-1, 9), UNKNOWN);
        due("about(8, 0)", x.about(8, 0), UNKNOWN);
        due("about(0, 2)", x.about(0, 2), OUTSIDE);
        due("about(0, -1)", x.about(0, -1), OUTSIDE);
    }

    private static void loss() {
        promise = 9;
        CartsDownHill x = with(null, "w10,l1,r2,t3,a4,u5", "w20,s9");
        for (int i = 0; i < 5; i++) {
            due("KIND", x.loss(0, i, 0), i);
            due("n", x.loss(0, i, 1), i + 1);
        }
        due("loss(1, 0, 0)", x.loss(1, 0, 0), 5);
        due("loss(1, 0, 1)", x.loss(1, 0, 1), 9);
        due("loss(1, 1, 0)", x.loss(1, 1, 0), UNKNOWN);
        due("loss(0, 5, 9)", x.loss(0, 5, 9), UNKNOWN);
        due("loss(0, -1, 0)", x.loss(0, -1, 0), UNKNOWN);
        due("loss(2, 0, 0)", x.loss(2, 0, 0), UNKNOWN);
        due("loss(0, 0, 2)", x.loss(0, 0, 2), OUTSIDE);
        due("loss(0, 0, -1)", x.loss(0, 0, -1), OUTSIDE);
    }

    private static void as() {
        promise = 10;
        CartsDownHill x = with(null, "w10,l1,r1,t1,a1,u1", "w10,l1,s1");
        for (int i = 0; i < 5; i++) {
            for (int kind = 0; kind <= 5; kind++) {
                boolean is = kind == 0 || kind == i || (i == 2 && kind == 1);
                due("as(0, " + i + ", " + kind + ")", x.as(0, i, kind), is ? i : NONE);
            }
        }
        due("TURNED as LOSS", x.as(1, 1, 0), 1);
        due("TURNED as RUBBED", x.as(1, 1, 1), NONE);
        due("TURNED as TURNED", x.as(1, 1, 5), 1);
        due("as(0, 0, 6)", x.as(0, 0, 6), OUTSIDE);
        due("as(0, 0, -1)", x.as(0, 0, -1), OUTSIDE);
        due("as(0, 5, 6)", x.as(0, 5, 6), UNKNOWN);
        due("as(2, 0, 0)", x.as(2, 0, 0), UNKNOWN);
        due("as(0, -1, 0)", x.as(0, -1, 0), UNKNOWN);
    }

    private static void weigh() {
        promise = 11;
        CartsDownHill x = with(null, "w50", "w60");
        due("weigh(0, 10)", x.weigh(0, 10), 50);
        due("weigh(0, 99)", x.weigh(0, 99), 10);
        due("weigh(0, 9)", x.weigh(0, 9), OUTSIDE);
        due("weigh(0, 100)", x.weigh(0, 100), OUTSIDE);
        due("about(0, 0)", x.about(0, 0), 99);
        due("about(1, 0)", x.about(1, 0), 60);
        due("weigh(2, 9)", x.weigh(2, 9), UNKNOWN);
        due("weigh(-1, 50)", x.weigh(-1, 50), UNKNOWN);
    }

    private static void grip() {
        promise = 12;
        CartsDownHill x = new CartsDownHill();
        due("grip(1)", x.grip(1), 9);
        due("grip(99)", x.grip(99), 1);
        due("grip(0)", x.grip(0), OUTSIDE);
        due("grip(100)", x.grip(100), OUTSIDE);
        due("grip(MIN)", x.grip(MIN), OUTSIDE);
        due("grip(5)", x.grip(5), 99);
        due("count(6)", x.count(6), 5);
    }

    private static void brake() {
        promise = 13;
        CartsDownHill x = new CartsDownHill();
        due("without a HILL", x.brake(0, 0), UNKNOWN);
        x = with("1,2,3");
        due("brake(2, 9)", x.brake(2, 9), 0);
        due("brake(2, 0)", x.brake(2, 0), 9);
        due("brake(2, 4)", x.brake(2, 4), 0);
        due("brake(2, 10)", x.brake(2, 10), OUTSIDE);
        due("brake(2, -1)", x.brake(2, -1), OUTSIDE);
        due("brake(3, 10)", x.brake(3, 10), UNKNOWN);
        due("brake(-1, 1)", x.brake(-1, 1), UNKNOWN);
        due("cell(2, 3)", x.cell(2, 3), 4);
        due("cell(1, 3)", x.cell(1, 3), 0);
    }

    private static void runOf(CartsDownHill x, int cart, int swing, int... want) {
        for (int what = 0; what <= 3; what++) {
            due("run(" + cart + ", " + swing + ", " + what + ")", x.run(cart, swing, what), want[what]);
        }
    }

    private static void run() {
        promise = 14;
        CartsDownHill x = with("5,0", "w50", "w10,s9", "w50,l1");
        runOf(x, 0, 0, 0, 1, 200, 100);
        // 100 less 45 for the drop: 55 and 55, root 7.
        runOf(x, 1, 0, 0, 1, 284, 55);
        // 10099: root 100.
        runOf(x, 0, 9999, 0, 1, 20, 10099);
        due("run(0, 10000, 0)", x.run(0, 10000, 0), OUTSIDE);
        due("run(0, -1, 0)", x.run(0, -1, 0), OUTSIDE);
        due("run(0, 0, 4)", x.run(0, 0, 4), OUTSIDE);
        due("run(0, 0, -1)", x.run(0, 0, -1), OUTSIDE);
        due("run(3, -1, 4)", x.run(3, -1, 4), UNKNOWN);
        due("run(-1, 0, 0)", x.run(-1, 0, 0), UNKNOWN);
        x = with("5,0b9", "w50");
        runOf(x, 0, 0, 0, 1, 200, 100);
        runOf(x, 0, 1, 2, 1, 200, 101);
        due("grip(10)", x.grip(10), 9);
        // 1000 by 9 is 111.
        runOf(x, 0, 11, 0, 1, 200, 111);
        runOf(x, 0, 12, 2, 1, 200, 112);
        x = with("9b9,9", "w50");
        // 180 is above 100: it LEAVES in CELL 0 already.
        runOf(x, 0, 0, 2, 0, 76, 180);
        x = with("0,0", "w50", "w50,l1", "w50,l3");
        runOf(x, 0, 0, 1, 0, 0, 0);
        runOf(x, 1, 1, 1, 0, 0, 0);
        runOf(x, 1, 2, 1, 1, 1000, 0);
        runOf(x, 1, 3, 0, 1, 2000, 1);
        runOf(x, 2, 4, 1, 1, 1000, 0);
        x = with("5b2,3u", "w20,l3,r2,t4,a5,u7");
        runOf(x, 0, 0, 0, 1, 225, 101);
        due("brake(0, 3)", x.brake(0, 3), 0);
        runOf(x, 0, 0, 0, 1, 253, 83);
        x = with(null, "w10");
        due("no HILL", x.run(0, -1, 9), STATE);
        due("no HILL, no CART", x.run(1, -1, 9), UNKNOWN);
    }

    private static void pace() {
        promise = 15;
        CartsDownHill x = with("5b2,3u", "w20,l3,r2,t4,a5,u7");
        due("pace(0, 0, 0)", x.pace(0, 0, 0), 79);
        due("pace(0, 0, 1)", x.pace(0, 0, 1), 101);
        due("pace(0, 10000, 0)", x.pace(0, 10000, 0), OUTSIDE);
        due("pace(0, -1, 0)", x.pace(0, -1, 0), OUTSIDE);
        due("pace(0, -1, 2)", x.pace(0, -1, 2), UNKNOWN);
        due("pace(0, 0, -1)", x.pace(0, 0, -1), UNKNOWN);
        due("pace(1, 0, 0)", x.pace(1, 0, 0), UNKNOWN);
        x = with("5,0b9,0", "w50", "w50,t9,l1");
        due("where it LEAVES", x.pace(0, 1, 1), 101);
        due("behind that", x.pace(0, 1, 2), NONE);
        due("ahead of where it STANDS", x.pace(1, 0, 0), 90);
        due("where it STANDS", x.pace(1, 0, 1), NONE);
        due("behind that", x.pace(1, 0, 2), NONE);
        x = with(null, "w10");
        due("no HILL", x.pace(0, 0, 0), UNKNOWN);
    }

    private static void lost() {
        promise = 16;
        CartsDownHill x = with("5b2,3u", "w20,l3,r2,t4,a5,u7", "w20,s4");
        int[] want = {6, 8, 16, 5, 24};
        for (int i = 0; i < 5; i++) {
            due("lost(0, 0, " + i + ")", x.lost(0, 0, i), want[i]);
        }
        due("TURNED", x.lost(1, 0, 0), 32);
        due("no BRAKES", x.lost(0, 0, -1), 0);
        due("brake(0, 3)", x.brake(0, 3), 0);
        due("by the BRAKES", x.lost(0, 0, -1), 23);
        due("AIRED then", x.lost(0, 0, 3), 4);
        due("lost(0, 0, 5)", x.lost(0, 0, 5), UNKNOWN);
        due("lost(0, -1, -2)", x.lost(0, -1, -2), UNKNOWN);
        due("lost(2, 0, -1)", x.lost(2, 0, -1), UNKNOWN);
        due("lost(2, 0, 0)", x.lost(2, 0, 0), UNKNOWN);
        due("lost(0, -1, 0)", x.lost(0, -1, 0), OUTSIDE);
        due("lost(0, 10000, -1)", x.lost(0, 10000, -1), OUTSIDE);
        x = with("0,0,0", "w50,l3,r1");
        due("brake(1, 9)", x.brake(1, 9), 0);
        // 6 less 5, then 1 less 5: both take all of theirs where it STANDS, and the BRAKE nothing.
        due("LOSS", x.lost(0, 6, 0), 6);
        due("RUBBED", x.lost(0, 6, 1), 4);
        due("BRAKES", x.lost(0, 6, -1), 0);
        x = with(null, "w10,l1");
        due("no HILL", x.lost(0, -1, 0), STATE);
        due("no HILL, no LOSS", x.lost(0, 0, 1), UNKNOWN);
    }

    private static void bestBrakes() {
        promise = 17;
        CartsDownHill x = with("5,0b9", "w50");
        due("brake(1, 9)", x.brake(1, 9), 0);
        // 150 would LEAVE, 105 too; 60 and 60: root 7.
        due("TIME", x.bestBrakes(0, 50, 0), 284);
        due("first", x.bestBrakes(0, 50, 1), 6);
        due("second", x.bestBrakes(0, 50, 2), NONE);
        due("BRAKES stay", x.cell(1, 3), 9);
        due("by none", x.bestBrakes(0, 9999, 0), NONE);
        due("by none, first", x.bestBrakes(0, 9999, 1), NONE);
        due("what 5", x.bestBrakes(0, 50, 5), OUTSIDE);
        due("what -1", x.bestBrakes(0, 50, -1), OUTSIDE);
        due("swing 10000", x.bestBrakes(0, 10000, 0), OUTSIDE);
        due("cart 1", x.bestBrakes(1, -1, 5), UNKNOWN);
        x = with("5b9,0b9", "w50");
        due("TIME", x.bestBrakes(0, 0, 0), 200);
        due("in CELL 0", x.bestBrakes(0, 0, 1), NONE);
        due("second", x.bestBrakes(0, 0, 2), 0);
        due("third", x.bestBrakes(0, 0, 3), NONE);
        x = with("0,0b1", "w50");
        due("like ones", x.bestBrakes(0, 3, 0), 2000);
        due("the least of them", x.bestBrakes(0, 3, 1), 0);
        x = with("0,0b1,0b1,0b1,0b1,0b9,0", "w50");
        due("a fifth BEND is not braked for", x.bestBrakes(0, 900, 0) > 0 ? 1 : 0, 1);
        due("first", x.bestBrakes(0, 101, 1), 0);
        due("fourth", x.bestBrakes(0, 101, 4), 3);
        x = with(null, "w10");
        due("no HILL", x.bestBrakes(0, -1, 9), STATE);
    }

    private static void bestPush() {
        promise = 18;
        CartsDownHill x = with("0,0", "w10", "w99,l9");
        due("k", x.bestPush(0, 1, 0), 9);
        due("TIME", x.bestPush(0, 1, 1), 1206);
        due("by none", x.bestPush(1, 1, 0), NONE);
        due("by none", x.bestPush(1, 1, 1), NONE);
        due("legs 0", x.bestPush(0, 0, 0), OUTSIDE);
        due("legs 100", x.bestPush(0, 100, 0), OUTSIDE);
        // 198 for 2 yards: root 14, so 120 and twice 71; 282 for 1 yard, 296 for 3.
        due("legs 99: k", x.bestPush(0, 99, 0), 2);
        due("legs 99: TIME", x.bestPush(0, 99, 1), 262);
        due("what 2", x.bestPush(0, 1, 2), OUTSIDE);
        due("what -1", x.bestPush(0, 1, -1), OUTSIDE);
        due("cart 2", x.bestPush(2, 0, 2), UNKNOWN);
        x = with("0,0", "w13,l7", "w14,l7");
        // 20 yards: 15, then 8 and 1; 19 yards: 14, then 7 and it STANDS. By 14 it would take 21 yards.
        due("20 yards", x.bestPush(0, 1, 0), 20);
        due("TIME of 20 yards", x.bestPush(0, 1, 1), 2700);
        due("not 21", x.bestPush(1, 1, 0), NONE);
        x = with("5,0", "w50");
        // 200 without pushing; a yard takes 60 and gains less.
        due("no push", x.bestPush(0, 1, 0), 0);
        due("TIME", x.bestPush(0, 1, 1), 200);
        x = with(null, "w10");
        due("no HILL", x.bestPush(0, 0, 2), STATE);
    }

    private static void work() {
        promise = 19;
        CartsDownHill x = with("5,0", "w50,l9,r3", "w50,l9,l9,l9,r9,r9", "w50");
        due("no evening", x.work(0, 0, 0, 0), 236);
        due("one evening", x.work(0, 0, 1, 0), 236);
        due("not used", x.work(0, 0, 1, 1) + x.work(0, 0, 1, 2), 0);
        for (int evenings = 3; evenings <= 6; evenings++) {
            due("TIME by " + evenings, x.work(0, 0, evenings, 0), 222);
            due("first by " + evenings, x.work(0, 0, evenings, 1), 0);
            due("second by " + evenings, x.work(0, 0, evenings, 2), 3);
            due("third by " + evenings, x.work(0, 0, evenings, 3), NONE);
        }
        due("n stays", x.loss(0, 1, 1), 3);
        due("by none", x.work(1, 0, 6, 0), NONE);
        due("by none, first", x.work(1, 0, 6, 1), NONE);
        due("no LOSSES", x.work(2, 0, 6, 0), 200);
        due("no first", x.work(2, 0, 6, 1), NONE);
        due("evenings 7", x.work(0, 0, 7, 0), OUTSIDE);
        due("evenings -1", x.work(0, 0, -1, 0), OUTSIDE);
        due("what 6", x.work(0, 0, 0, 6), OUTSIDE);
        due("what -1", x.work(0, 0, 0, -1), OUTSIDE);
        due("swing -1", x.work(0, -1, 0, 0), OUTSIDE);
        due("cart 3", x.work(3, -1, 9, 9), UNKNOWN);
        x = with("0,0", "w50,l1,r1");
        // From 4 without losses 500 and 500; with l alone 1000 and 1000; with r alone it STANDS.
        due("both", x.work(0, 4, 2, 0), 1000);
        due("first", x.work(0, 4, 2, 1), 1);
        due("second", x.work(0, 4, 2, 2), 1);
        due("one: r", x.work(0, 4, 1, 0), 2000);
        due("first", x.work(0, 4, 1, 1), 0);
        due("second", x.work(0, 4, 1, 2), 1);
        x = with(null, "w10");
        due("no HILL", x.work(0, -1, 9, 9), STATE);
    }

    private static void weighed() {
        promise = 20;
        CartsDownHill x = with("5,0", "w50,a9", "w50,l9,l9,l9,r9,r9");
        due("weighed(0, 0, 50)", x.weighed(0, 0, 50), 222);
        due("weighed(0, 0, 99)", x.weighed(0, 0, 99), 200);
        due("weighed(0, 0, 90)", x.weighed(0, 0, 90), 222);
        due("weighed(0, 0, 91)", x.weighed(0, 0, 91), 200);
        due("weighed(0, 0, 10)", x.weighed(0, 0, 10), 222);
        due("not DOWN", x.weighed(1, 0, 10), NONE);
        due("WEIGHT stays", x.about(0, 0), 50);
        due("weight 9", x.weighed(0, 0, 9), OUTSIDE);
        due("weight 100", x.weighed(0, 0, 100), OUTSIDE);
        due("swing 10000", x.weighed(0, 10000, 10), OUTSIDE);
        due("cart 2", x.weighed(2, -1, 9), UNKNOWN);
        x = with(null, "w10");
        due("no HILL", x.weighed(0, -1, 9), STATE);
    }

    private static void close() {
        promise = 21;
        CartsDownHill x = with("5,0", "w99,a9", "w10,a9");
        due("limit", x.close(0, 0), 90);
        due("difference", x.close(0, 1), 0);
        due("WEIGHT stays", x.about(0, 0), 99);
        due("swing -1", x.close(-1, 0), OUTSIDE);
        due("swing 10000", x.close(10000, 0), OUTSIDE);
        due("what 2", x.close(0, 2), OUTSIDE);
        due("what -1", x.close(0, -1), OUTSIDE);
        x = with("5,0", "w50", "w50,l1");
        due("the greatest of like ones", x.close(0, 0), 99);
        // 99 and 98: 111 each.
        due("difference", x.close(0, 1), 22);
        x = with("5b9,0", "w99,a9");
        // 109 less 9 by the limit 10 is just bearable; less 8 by 11 is not.
        due("the least limit", x.close(9, 0), 10);
        due("one CART", x.close(9, 1), 0);
        due("by none", x.close(10, 0), NONE);
        x = with("0,0", "w50", "w50,l1");
        due("not all DOWN", x.close(1, 0), NONE);
        due("not all DOWN", x.close(1, 1), NONE);
        due("no CARTS", with("0,0").close(-1, 9), STATE);
        due("no HILL", with(null, "w10").close(-1, 9), STATE);
    }

    private static void farthest() {
        promise = 22;
        CartsDownHill x = with(null, "w50,r1", "w50", "w50,l1", "w50,t2", "w50,u9,s9", "w10,a9");
        due("r1 from 10", x.farthest(0, 10), 4);
        due("r1 from 11", x.farthest(0, 11), 5);
        due("from 0", x.farthest(0, 0), 0);
        due("without losses from 0", x.farthest(1, 0), 0);
        due("without losses from 1", x.farthest(1, 1), 999);
        due("l1 from 999", x.farthest(2, 999), 998);
        due("l1 from 1000", x.farthest(2, 1000), 999);
        due("l1 from 9999", x.farthest(2, 9999), 999);
        due("TOED", x.farthest(3, 10), 4);
        due("BUMPED and TURNED", x.farthest(4, 1), 999);
        due("AIRED", x.farthest(5, 9999), 999);
        due("swing -1", x.farthest(0, -1), OUTSIDE);
        due("swing 10000", x.farthest(0, 10000), OUTSIDE);
        due("cart 6", x.farthest(6, -1), UNKNOWN);
        x = with("5b9,0u", "w50,t2,u9");
        due("brake(0, 9)", x.brake(0, 9), 0);
        due("not on THE HILL", x.farthest(0, 10), 4);
    }

    private static void coast() {
        promise = 23;
        CartsDownHill x = with(null, "w50", "w60");
        due("cart 2", x.coast(2, -1, -1), UNKNOWN);
        due("swing -1", x.coast(0, -1, 0), OUTSIDE);
        due("swing 10000", x.coast(0, 10000, 0), OUTSIDE);
        due("cells -1", x.coast(0, 0, -1), OUTSIDE);
        due("cells 100", x.coast(0, 0, 100), OUTSIDE);
        due("none yet", x.count(3), 0);
        for (int i = 1; i <= 8; i++) {
            due("coast", x.coast(i % 2, 9999, 99), i);
        }
        due("a ninth", x.coast(0, 0, 0), FULL);
        due("a ninth, outside", x.coast(0, 0, 100), OUTSIDE);
        due("eight", x.count(3), 8);
    }

    private static void rubs() {
        promise = 24;
        CartsDownHill x = with(null, "w50", "w50,r2");
        due("no COASTS", x.rubs(), 1023);
        due("coast(0, 10, 1)", x.coast(0, 10, 1), 1);
        // 10 less 2n is above 0, 10 less 4n is not: 3 and 4.
        due("rubs()", x.rubs(), 24);
        // r2 and n: 20 less 2 * (4 + 2n) is 0 from 3 on.
        due("coast(1, 20, 1)", x.coast(1, 20, 1), 2);
        due("rubs()", x.rubs(), 24);
        due("coast(0, 7, 1)", x.coast(0, 7, 1), 3);
        due("rubs()", x.rubs(), 8);
        due("coast(0, 10, 0)", x.coast(0, 10, 0), 4);
        due("rubs()", x.rubs(), 0);
        x = with(null, "w50");
        due("coast(0, 18, 0)", x.coast(0, 18, 0), 1);
        due("9 alone", x.rubs(), 512);
        x = with(null, "w50,r1");
        due("coast(0, 10, 4)", x.coast(0, 10, 4), 1);
        due("0 alone", x.rubs(), 1);
        x = with(null, "w10,a9");
        due("coast(0, 100, 1)", x.coast(0, 100, 1), 1);
        due("none", x.rubs(), 0);
    }

    private static void chance() {
        promise = 25;
        // From 4: 1000, 2000, and one that STANDS.
        CartsDownHill x = with("0,0", "w50", "w50,l1", "w50,l3", "w60,l3");
        int[] more = {5, 5, 3, 2, 2, 1, 1, 1, 1, 1, 0};
        for (int slip = 1; slip <= 11; slip++) {
            due("slip " + slip, x.chance(0, 1, 4, slip), 5 + more[slip - 1]);
            due("slip " + slip, x.chance(1, 0, 4, slip), 5 - more[slip - 1]);
        }
        due("like ones", x.chance(0, 0, 4, 1), 5);
        due("DOWN against not", x.chance(1, 2, 4, 99), 10);
        due("not against DOWN", x.chance(2, 1, 4, 99), 0);
        due("two that are not", x.chance(2, 3, 4, 1), 5);
        due("slip 0", x.chance(0, 1, 4, 0), OUTSIDE);
        due("slip 100", x.chance(0, 1, 4, 100), OUTSIDE);
        due("swing -1", x.chance(0, 1, -1, 1), OUTSIDE);
        due("a", x.chance(4, 0, -1, 0), UNKNOWN);
        due("b", x.chance(0, -1, -1, 0), UNKNOWN);
        x = with(null, "w10", "w20");
        due("no HILL", x.chance(0, 1, -1, 0), STATE);
        due("no HILL, no b", x.chance(0, 2, -1, 0), UNKNOWN);
    }

    /** From 4 and by slip 3: 0 beats 1 in 8 tenths, both beat 2 surely, 3 is like 0. */
    private static CartsDownHill four() {
        return with("0,0", "w50", "w50,l1", "w50,l3", "w60");
    }

    private static void wins() {
        promise = 26;
        CartsDownHill x = four();
        int[][] want = {{2, 5}, {1, 25}, {0, 1}, {14, 25}};
        for (int which = 0; which <= 3; which++) {
            for (int part = 0; part <= 1; part++) {
                due("wins of " + which, x.wins(0, 1, 2, 3, 4, 3, which, part), want[which][part]);
            }
        }
        due("surely", x.wins(0, 2, 1, 3, 1, 3, 1, 0), 0);
        due("slip 1", x.wins(0, 1, 2, 3, 4, 1, 0, 1), 2);
        due("slip 99", x.wins(0, 1, 2, 3, 4, 99, 0, 1), 4);
        due("which 4", x.wins(0, 1, 2, 3, 4, 3, 4, 0), OUTSIDE);
        due("which -1", x.wins(0, 1, 2, 3, 4, 3, -1, 0), OUTSIDE);
        due("part 2", x.wins(0, 1, 2, 3, 4, 3, 0, 2), OUTSIDE);
        due("part -1", x.wins(0, 1, 2, 3, 4, 3, 0, -1), OUTSIDE);
        due("slip 0", x.wins(0, 1, 2, 3, 4, 0, 0, 0), OUTSIDE);
        due("slip 100", x.wins(0, 1, 2, 3, 4, 100, 0, 0), OUTSIDE);
        due("swing 10000", x.wins(0, 1, 2, 3, 10000, 3, 0, 0), OUTSIDE);
        for (int i = 0; i < 4; i++) {
            for (int j = i + 1; j < 4; j++) {
                int[] c = {0, 1, 2, 3};
                c[j] = c[i];
                due("two the same", x.wins(c[0], c[1], c[2], c[3], -1, 0, 9, 9), STATE);
                due("two the same", x.plan(c[0], c[1], c[2], c[3], -1, 0), STATE);
            }
            int[] c = {0, 0, 0, 0};
            c[i] = 4;
            due("unknown", x.wins(c[0], c[1], c[2], c[3], -1, 0, 9, 9), UNKNOWN);
            due("unknown", x.plan(c[0], c[1], c[2], c[3], -1, 0), UNKNOWN);
        }
        x = with(null, "w10", "w10", "w10", "w10");
        due("no HILL", x.wins(0, 1, 2, 3, -1, 0, 9, 9), STATE);
        x = with("0,0", "w50", "w50,l3", "w51,l3", "w52,l3");
        due("one alone", x.wins(1, 0, 2, 3, 4, 3, 1, 0), 1);
        due("one alone", x.wins(1, 0, 2, 3, 4, 3, 1, 1), 1);
    }

    private static void plan() {
        promise = 27;
        CartsDownHill x = four();
        due("a against c", x.plan(0, 1, 2, 3, 4, 3), 1);
        due("a against d", x.plan(1, 2, 0, 3, 4, 3), 2);
        due("a against b", x.plan(0, 2, 1, 3, 4, 3), 0);
        due("slip 1: like ones", x.plan(0, 1, 2, 3, 4, 1), 0);
        due("none is DOWN", x.plan(0, 1, 2, 3, 0, 3), 0);
        // The second one is quickest: 8 tenths, if it meets the fourth first, which is not DOWN; else 64 hundredths.
        due("only the second is quick", with("0,0", "w50,l1", "w50", "w51,l1", "w50,l3").plan(0, 1, 2, 3, 4, 3), 1);
        due("by a great slip: against the one that is not DOWN", x.plan(0, 1, 3, 2, 4, 99), 2);
        due("one that is not DOWN first", x.plan(2, 1, 3, 0, 4, 3), 1);
        due("slip 0", x.plan(0, 1, 2, 3, 4, 0), OUTSIDE);
        due("slip 100", x.plan(0, 1, 2, 3, 4, 100), OUTSIDE);
        due("swing -1", x.plan(0, 1, 2, 3, -1, 1), OUTSIDE);
        x = with(null, "w10", "w10", "w10", "w10");
        due("no HILL", x.plan(0, 1, 2, 3, -1, 0), STATE);
        due("no HILL, no CART", x.plan(0, 1, 2, 4, -1, 0), UNKNOWN);
    }

    private static void staysOf(CartsDownHill x, int swing, int shake, int straw, long above, long below) {
        due("stays above, " + swing, x.stays(0, swing, shake, straw, 0), above);
        due("stays below, " + swing, x.stays(0, swing, shake, straw, 1), below);
    }

    private static void stays() {
        promise = 28;
        CartsDownHill x = with("5,0b9", "w50");
        staysOf(x, 0, 9, 0, 1, 10);
        staysOf(x, 0, 3, 0, 7, 10);
        staysOf(x, 0, 0, 0, 1, 1);
        staysOf(x, 0, 9, 1, 1, 1);
        staysOf(x, 0, 9, 14, 1, 10);
        staysOf(x, 1, 0, 0, 0, 1);
        staysOf(x, 1, 0, 1, 1, 1);
        x = with("0,0b7", "w50");
        staysOf(x, 128, 1, 0, 9, 10);
        staysOf(x, 127, 1, 0, 91, 100);
        staysOf(x, 12, 9, 0, 1, 1);
        x = with("5,0b9,0b9", "w50");
        staysOf(x, 1, 9, 1, 1, 1);
        staysOf(x, 1, 9, 2, 0, 1);
        x = with("5,0b9,0b9", "w50,t9,l1");
        staysOf(x, 0, 9, 0, 1, 1);
        x = with("5b1,0b1,0b1,0b1,0b9", "w50");
        staysOf(x, 1, 9, 0, 68574961, 100000000);
        staysOf(x, 1, 9, 15, 1, 1);
        staysOf(x, 1, 9, 7, 91, 100);
        due("shake 10", x.stays(0, 0, 10, 0, 0), OUTSIDE);
        due("shake -1", x.stays(0, 0, -1, 0, 0), OUTSIDE);
        due("straw 16", x.stays(0, 0, 0, 16, 0), OUTSIDE);
        due("straw -1", x.stays(0, 0, 0, -1, 0), OUTSIDE);
        due("part 2", x.stays(0, 0, 0, 0, 2), OUTSIDE);
        due("part -1", x.stays(0, 0, 0, 0, -1), OUTSIDE);
        due("swing 10000", x.stays(0, 10000, 0, 0, 0), OUTSIDE);
        due("cart 1", x.stays(1, -1, 10, 16, 2), UNKNOWN);
        due("no HILL", with(null, "w10").stays(0, -1, 10, 16, 2), STATE);
    }

    private static void straw() {
        promise = 29;
        CartsDownHill x = with("5b9,0b1,0b1,0b9,0", "w50");
        int[] want = {1, 9, 11, 15};
        for (int k = 1; k <= 4; k++) {
            due("straw k " + k, x.straw(0, 0, 9, k), want[k - 1]);
        }
        due("the one that it LEAVES", with("5b1,0b9,0b9", "w50").straw(0, 1, 9, 1), 2);
        due("the second is quicker", with("0,0b1,5b1", "w50").straw(0, 1, 9, 1), 2);
        x = with("5,0b9", "w50");
        due("one", x.straw(0, 0, 0, 1), 1);
        due("fewer", x.straw(0, 0, 0, 2), STATE);
        due("k 0", x.straw(0, 0, 0, 0), OUTSIDE);
        due("k 5", x.straw(0, 0, 0, 5), OUTSIDE);
        due("shake 10", x.straw(0, 0, 10, 4), OUTSIDE);
        due("swing -1", x.straw(0, -1, 0, 4), OUTSIDE);
        due("cart 1", x.straw(1, -1, 10, 5), UNKNOWN);
        due("five BENDS", with("5b1,0b1,0b1,0b1,0b9", "w50").straw(0, 1, 9, 4), 15);
        due("no HILL", with(null, "w10").straw(0, -1, 10, 5), STATE);
    }

    private static void image() {
        promise = 30;
        CartsDownHill x = with(null, "w10", "w20");
        due("no HILL", x.image(), STATE);
        write(x, "1,2");
        due("hill()", x.hill(), 2);
        due("image()", x.image(), 2);
        due("weigh(0, 30)", x.weigh(0, 30), 10);
        due("the latest", x.image(), 2);
        due("weigh(0, 40)", x.weigh(0, 40), 30);
        due("restore()", x.restore(), 2);
        due("about(0, 0)", x.about(0, 0), 30);
        due("image() without CARTS", with("1,2").image(), 0);
    }

    private static void restore() {
        promise = 31;
        CartsDownHill x = with("5,0", "w10,l1");
        due("none kept", x.restore(), STATE);
        x.grip(20);
        x.brake(1, 3);
        x.coast(0, 7, 6);
        due("image()", x.image(), 1);
        x.grip(30);
        x.brake(1, 4);
        x.brake(0, 5);
        x.weigh(0, 99);
        x.coast(0, 8, 8);
        write(x, "w50,l2");
        due("cart()", x.cart(), 1);
        x.weigh(1, 51);
        x.coast(1, 9, 9);
        write(x, "xyz");
        due("COASTS", x.count(3), 3);
        due("restore()", x.restore(), 2);
        due("GRIP", x.count(6), 20);
        due("BRAKE of 0", x.cell(0, 3), 0);
        due("BRAKE of 1", x.cell(1, 3), 3);
        due("WEIGHT", x.about(0, 0), 10);
        due("WEIGHT of one since", x.about(1, 0), 51);
        due("COASTS", x.count(3), 1);
        due("rubs()", x.rubs(), 1);
        due("letters stay", x.count(4), 3);
        x.grip(40);
        due("restore() again", x.restore(), 2);
        due("GRIP", x.count(6), 20);
        x.blank();
        write(x, "5,0");
        due("hill()", x.hill(), 2);
        x.grip(50);
        due("another HILL since", x.restore(), STATE);
        due("GRIP", x.count(6), 50);
        due("image()", x.image(), 2);
        due("restore()", x.restore(), 2);
    }

    private static void count() {
        promise = 32;
        CartsDownHill x = with("5b1,0u,0b2,0b3,0b4,0b5", "w10", "w20", "w30");
        x.coast(0, 1, 1);
        x.coast(1, 1, 1);
        x.grip(77);
        write(x, "abcd");
        int[] want = {6, 5, 3, 2, 4, 1, 77};
        for (int what = 0; what <= 6; what++) {
            due("count(" + what + ")", x.count(what), want[what]);
        }
        due("count(7)", x.count(7), OUTSIDE);
        due("count(-1)", x.count(-1), OUTSIDE);
        due("count(MIN)", x.count(MIN), OUTSIDE);
    }

    private static long sum(long h, long... numbers) {
        for (long number : numbers) {
            h = 31 * h + number;
        }
        return h;
    }

    private static void digest() {
        promise = 33;
        due("new", new CartsDownHill().digest(), sum(491, 1023, 0, 0, 0, 0, 0, 0, 9));
        CartsDownHill x = with(null, "w50,l9,r9");
        due("without a HILL", x.digest(), sum(491, 50, 2, 0, 9, 1, 9, 14, 1023, 0, 0, 1, 0, 0, 0, 9));
        x = with("5b9,0", "w50", "w60,r1");
        x.grip(10);
        x.brake(1, 3);
        x.coast(1, 10, 4);
        write(x, "ab");
        // From 100: 200 is above 111, so both LEAVE in CELL 0; root 14: 71.
        long want = sum(491, 5, 9, 0, 0, 0, 0, 0, 3);
        want = sum(want, 50, 0, 999, 2, 0, 71, 200);
        want = sum(want, 60, 1, 1, 1, 199, 2, 0, 71, 198);
        want = sum(want, 1, 10, 4, 1, 'a', 'b', 2, 1, 2, 1, 2, 1, 10);
        due("all of it", x.digest(), want);
    }
}
