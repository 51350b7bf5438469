import java.lang.reflect.Method;
import java.util.ArrayList;
import java.util.Arrays;
import java.util.List;

// Each number of each call at the least and the greatest that is told and just beyond both, every two wrong numbers
// at once, and every call without a HILL: which refusal comes first, and that a refused call changes nothing.
public final class CartsDownHillRefusals {
    private static final int UNKNOWN = -101, OUTSIDE = -102, STATE = -103, FULL = -104;
    private static final int MIN = Integer.MIN_VALUE, MAX = Integer.MAX_VALUE;

    private static int wrong = 0;
    private static int asked = 0;

    /** A number that a call takes: what it is refused with, if it is not least to greatest; one that is fine. */
    private record Limits(int refusal, int least, int greatest, int fine) {
        List<Integer> beyond() {
            List<Integer> all = new ArrayList<>(List.of(MIN, MAX));
            all.add(least - 1);
            all.add(greatest + 1);
            return all;
        }
    }

    private static final Limits CART = new Limits(UNKNOWN, 0, 7, 3);
    private static final Limits CELL = new Limits(UNKNOWN, 0, 11, 5);
    private static final Limits LOSS = new Limits(UNKNOWN, 0, 4, 2);
    private static final Limits SWING = told(0, 9999, 150);
    private static final Limits SLIP = told(1, 99, 2);
    private static final Limits SHAKE = told(0, 9, 4);
    private static final Limits PART = told(0, 1, 1);

    private static Limits told(int least, int greatest, int fine) {
        return new Limits(OUTSIDE, least, greatest, fine);
    }

    private static Limits cart(int fine) {
        return new Limits(UNKNOWN, 0, 7, fine);
    }

    /** A call; what it answers with numbers that are fine, without a HILL: STATE, UNKNOWN, or 0: no refusal. */
    private record Call(String name, int withoutHill, boolean asks, Limits... numbers) {
        int[] fine() {
            return Arrays.stream(numbers).mapToInt(Limits::fine).toArray();
        }
    }

    private static final Call[] CALLS = {
        new Call("fault", 0, true, told(0, 1, 1)),
        new Call("cell", UNKNOWN, true, CELL, told(0, 3, 1)),
        new Call("about", 0, true, CART, told(0, 1, 1)),
        new Call("loss", 0, true, CART, LOSS, told(0, 1, 1)),
        new Call("as", 0, true, CART, LOSS, told(0, 5, 0)),
        new Call("weigh", 0, false, CART, told(10, 99, 33)),
        new Call("grip", 0, false, told(1, 99, 33)),
        new Call("brake", UNKNOWN, false, CELL, told(0, 9, 7)),
        new Call("run", STATE, true, CART, SWING, told(0, 3, 1)),
        new Call("pace", UNKNOWN, true, CART, SWING, CELL),
        new Call("lost", STATE, true, CART, SWING, new Limits(UNKNOWN, -1, 4, 2)),
        new Call("bestBrakes", STATE, true, CART, SWING, told(0, 4, 1)),
        new Call("bestPush", STATE, true, CART, told(1, 99, 40), told(0, 1, 1)),
        new Call("work", STATE, true, CART, SWING, told(0, 6, 2), told(0, 5, 1)),
        new Call("weighed", STATE, true, CART, SWING, told(10, 99, 50)),
        new Call("close", STATE, true, SWING, told(0, 1, 1)),
        new Call("farthest", 0, true, CART, SWING),
        new Call("coast", 0, false, CART, SWING, told(0, 99, 9)),
        new Call("rubs", 0, true),
        new Call("chance", STATE, true, CART, cart(4), SWING, SLIP),
        new Call("wins", STATE, true, cart(1), cart(2), cart(3), cart(4), SWING, SLIP, told(0, 3, 1), PART),
        new Call("plan", STATE, true, cart(1), cart(2), cart(3), cart(4), SWING, SLIP),
        new Call("stays", STATE, true, CART, SWING, SHAKE, told(0, 15, 5), PART),
        new Call("straw", STATE, true, CART, SWING, SHAKE, told(1, 4, 2)),
        new Call("count", 0, true, told(0, 6, 5)),
        new Call("digest", 0, true),
    };

    public static void main(String[] args) throws Exception {
        for (Call call : CALLS) {
            numbersAtTheirEdges(call);
            twoWrongAtOnce(call);
            withoutHill(call);
            withoutAnything(call);
        }
        statesBehindOthers();
        refusedTexts();
        refusedWhenFull();
        refusedImages();
        System.out.println(asked + " answers, " + wrong + " wrong");
        if (wrong != 0) {
            System.exit(1);
        }
    }

    private static void due(String what, long got, long want) {
        asked++;
        if (got != want) {
            wrong++;
            System.out.println(what + " answered " + got + ", due is " + want);
        }
    }

    private static void write(CartsDownHill x, String text) {
        for (int from = 0; from < text.length(); from += 8) {
            long w = 0;
            for (int i = Math.min(text.length(), from + 8) - 1; i >= from; i--) {
                w = w << 8 | text.charAt(i);
            }
            x.letters(w);
        }
    }

    private static CartsDownHill withCarts(String hill) {
        CartsDownHill x = new CartsDownHill();
        if (hill != null) {
            write(x, hill);
            due("hill() of " + hill, x.hill(), hill.split(",").length);
        }
        for (int i = 0; i < 8; i++) {
            write(x, "w" + (20 + 10 * i) + ",l1,r1,t1,a" + (1 + i) + ",u1");
            due("cart()", x.cart(), i);
        }
        return x;
    }

    /** Twelve CELLS, five BENDS, eight CARTS, an IMAGE that is not how things are now, and letters on THE PAGE. */
    private static CartsDownHill ready() {
        CartsDownHill x = withCarts("3,1b1,2u,1b2,0,2b1,1,0b3,1u,0b1,1,2");
        x.coast(0, 50, 7);
        x.brake(3, 2);
        due("image()", x.image(), 8);
        x.brake(3, 1);
        x.brake(6, 4);
        x.weigh(2, 77);
        x.grip(12);
        x.coast(1, 60, 8);
        write(x, "3,4b");
        return x;
    }

    private static CartsDownHill hillLess() {
        CartsDownHill x = withCarts(null);
        x.weigh(2, 77);
        x.grip(12);
        x.coast(1, 60, 8);
        write(x, "3,4b");
        return x;
    }

    /** All that can be told of an object, its IMAGE too; the object is used up by it. */
    private static String all(CartsDownHill x) {
        StringBuilder told = new StringBuilder();
        for (int what = 0; what <= 6; what++) {
            told.append(x.count(what)).append(' ');
        }
        told.append(x.digest()).append(' ').append(x.restore()).append(' ').append(x.digest());
        return told.append(' ').append(x.blank()).append(' ').append(x.digest()).toString();
    }

    private static void same(String what, CartsDownHill got, CartsDownHill want) {
        asked++;
        if (!all(got).equals(all(want))) {
            wrong++;
            System.out.println(what + " changed something");
        }
    }

    private static long ask(CartsDownHill x, String name, int... numbers) throws Exception {
        Class<?>[] types = new Class<?>[numbers.length];
        Object[] values = new Object[numbers.length];
        for (int i = 0; i < numbers.length; i++) {
            types[i] = int.class;
            values[i] = numbers[i];
        }
        Method method = CartsDownHill.class.getMethod(name, types);
        return ((Number) method.invoke(x, values)).longValue();
    }

    private static String text(String name, int... numbers) {
        return name + Arrays.toString(numbers).replace('[', '(').replace(']', ')');
    }

    private static void refused(CartsDownHill x, CartsDownHill twin, int want, String name, int... numbers)
            throws Exception {
        due(text(name, numbers), ask(x, name, numbers), want);
        same(text(name, numbers), x, twin);
    }

    private static void taken(Call call, int... numbers) throws Exception {
        CartsDownHill x = ready();
        long got = ask(x, call.name, numbers);
        boolean refusal = got >= FULL && got <= UNKNOWN;
        due(text(call.name, numbers) + " is refused", refusal ? got : 0, 0);
        if (call.asks) {
            same(text(call.name, numbers), x, ready());
        }
    }

    private static void numbersAtTheirEdges(Call call) throws Exception {
        taken(call, call.fine());
        for (int i = 0; i < call.numbers.length; i++) {
            Limits number = call.numbers[i];
            int[] numbers = call.fine();
            numbers[i] = number.least;
            taken(call, numbers);
            numbers[i] = number.greatest;
            taken(call, numbers);
            for (int beyond : number.beyond()) {
                numbers[i] = beyond;
                refused(ready(), ready(), number.refusal, call.name, numbers);
            }
        }
    }

    /** UNKNOWN comes first, wherever it stands among the numbers. */
    private static void twoWrongAtOnce(Call call) throws Exception {
        for (int i = 0; i < call.numbers.length; i++) {
            for (int j = i + 1; j < call.numbers.length; j++) {
                int want = Math.max(call.numbers[i].refusal, call.numbers[j].refusal);
                int[] numbers = call.fine();
                numbers[i] = call.numbers[i].greatest + 1;
                numbers[j] = call.numbers[j].least - 1;
                refused(ready(), ready(), want, call.name, numbers);
            }
        }
    }

    private static void withoutHill(Call call) throws Exception {
        if (call.withoutHill == 0) {
            long got = ask(hillLess(), call.name, call.fine());
            boolean refusal = got >= FULL && got <= UNKNOWN;
            due(text(call.name, call.fine()) + " without a HILL is refused", refusal ? got : 0, 0);
        } else {
            refused(hillLess(), hillLess(), call.withoutHill, call.name, call.fine());
        }
        for (int i = 0; i < call.numbers.length; i++) {
            int[] numbers = call.fine();
            numbers[i] = call.numbers[i].greatest + 1;
            boolean unknown = call.numbers[i].refusal == UNKNOWN;
            int want = unknown || call.withoutHill == 0 ? call.numbers[i].refusal : call.withoutHill;
            refused(hillLess(), hillLess(), want, call.name, numbers);
        }
    }

    /** On a new object each CART, CELL and LOSS is UNKNOWN, the least one too. */
    private static void withoutAnything(Call call) throws Exception {
        if (Arrays.stream(call.numbers).anyMatch(number -> number.refusal == UNKNOWN)) {
            int[] numbers = Arrays.stream(call.numbers).mapToInt(Limits::least).toArray();
            refused(new CartsDownHill(), new CartsDownHill(), UNKNOWN, call.name, numbers);
        }
    }

    /** STATE of close(), wins(), plan() and straw(), against the refusals that are told ahead of it and behind it. */
    private static void statesBehindOthers() throws Exception {
        CartsDownHill x = new CartsDownHill();
        refused(x, new CartsDownHill(), STATE, "close", 0, 0);
        for (int[] numbers : new int[][] {{0, 0}, {-1, 0}, {10000, 0}, {0, 2}, {0, -1}}) {
            CartsDownHill bare = new CartsDownHill();
            write(bare, "5,0");
            due("hill()", bare.hill(), 2);
            due("no CARTS: " + text("close", numbers), ask(bare, "close", numbers), STATE);
        }
        for (int i = 0; i < 4; i++) {
            for (int j = i + 1; j < 4; j++) {
                int[] four = {1, 2, 3, 4};
                four[j] = four[i];
                sameTwo(four, STATE);
                four[(j + 1) % 4 == i ? (j + 2) % 4 : (j + 1) % 4] = 8;
                sameTwo(four, UNKNOWN);
            }
        }
        CartsDownHill three = new CartsDownHill();
        write(three, "0,0b1,0b1,0b1");
        three.hill();
        write(three, "w50");
        three.cart();
        due("straw for three of three", three.straw(0, 9, 0, 3), 7);
        due("straw for four of three", three.straw(0, 9, 0, 4), STATE);
        due("OUTSIDE ahead of too few BENDS: swing", three.straw(0, -1, 0, 4), OUTSIDE);
        due("OUTSIDE ahead of too few BENDS: shake", three.straw(0, 9, 10, 4), OUTSIDE);
        due("OUTSIDE ahead of too few BENDS: k", three.straw(0, 9, 0, 5), OUTSIDE);
        due("UNKNOWN ahead of too few BENDS", three.straw(1, 9, 0, 4), UNKNOWN);
    }

    private static void sameTwo(int[] four, int want) throws Exception {
        int[][] behind = {{9, 2, 1, 1}, {-1, 2, 1, 1}, {9, 0, 1, 1}, {9, 2, 4, 1}, {9, 2, 1, 2}};
        for (int[] rest : behind) {
            refused(ready(), ready(), want, "wins",
                four[0], four[1], four[2], four[3], rest[0], rest[1], rest[2], rest[3]);
            refused(ready(), ready(), want, "plan", four[0], four[1], four[2], four[3], rest[0], rest[1]);
        }
    }

    private static void refusedTexts() {
        String[] none = {"", "3", "3,4b", "3,4b0", "3,44", "w", "w09", "w10,", "w10,l", "w10,l0", "w10,x1", "w100"};
        for (String page : none) {
            CartsDownHill x = readyWith(page);
            due("hill() of " + page, x.hill(), STATE);
            due("cart() of " + page, x.cart(), STATE);
            same("hill() and cart() of " + page, x, readyWith(page));
        }
        CartsDownHill x = ready();
        due("letters: 127", x.letters(0x7F01L), OUTSIDE);
        due("letters: behind a 0", x.letters(0x010001L), OUTSIDE);
        same("letters", x, ready());
    }

    private static CartsDownHill readyWith(String page) {
        CartsDownHill x = ready();
        x.blank();
        write(x, page);
        return x;
    }

    private static CartsDownHill full() {
        CartsDownHill x = readyWith("w10,l1");
        for (int i = 3; i <= 8; i++) {
            due("coast()", x.coast(2, 70, 5), i);
        }
        return x;
    }

    private static void refusedWhenFull() throws Exception {
        CartsDownHill x = full();
        due("a ninth CART", x.cart(), FULL);
        same("cart()", x, full());
        refused(full(), full(), FULL, "coast", 0, 50, 5);
        refused(full(), full(), OUTSIDE, "coast", 0, 10000, 5);
        refused(full(), full(), OUTSIDE, "coast", 0, 50, 100);
        refused(full(), full(), UNKNOWN, "coast", 8, 10000, 100);
        CartsDownHill page = readyWith("0123456789012345678901234567890123456789012");
        due("43 letters and 8", page.letters(0x0101010101010101L), FULL);
        due("43 letters and 8, one of them 127", page.letters(0x7F01010101010101L), OUTSIDE);
        due("letters then", page.count(4), 43);
        same("letters", page, readyWith("0123456789012345678901234567890123456789012"));
    }

    private static void refusedImages() throws Exception {
        refused(hillLess(), hillLess(), STATE, "image");
        refused(hillLess(), hillLess(), STATE, "restore");
        refused(new CartsDownHill(), new CartsDownHill(), STATE, "image");
        refused(new CartsDownHill(), new CartsDownHill(), STATE, "restore");
        refused(anotherHill(), anotherHill(), STATE, "restore");
    }

    private static CartsDownHill anotherHill() {
        CartsDownHill x = readyWith("5,0");
        due("hill()", x.hill(), 2);
        x.brake(1, 3);
        return x;
    }
}
