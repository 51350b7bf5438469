import java.math.BigInteger;
import java.util.ArrayList;
import java.util.Arrays;
import java.util.List;
import java.util.Random;
import java.util.TreeMap;
import java.util.regex.Matcher;
import java.util.regex.Pattern;

// Long runs of calls, chosen by a fixed seed, each answer compared with Model: a second, slow writing of the document.
public final class CartsDownHillModel {
    private static final int NONE = -1, UNKNOWN = -101, OUTSIDE = -102, STATE = -103, FULL = -104;
    private static final int OBJECTS = 1200, CALLS = 512, SORTS = 34;
    /** A step of a run makes fewer calls than so many: THE PAGE, both faults, a HILL, a CART, a digest. */
    private static final int MOST_AT_ONCE = 16;

    private static final TreeMap<String, int[]> SEEN = new TreeMap<>();
    private static int wrong = 0;

    private final Random random;
    private final CartsDownHill x = new CartsDownHill();
    private final Model m = new Model();
    private final List<String> calls = new ArrayList<>();

    private CartsDownHillModel(long seed) {
        random = new Random(seed);
    }

    public static void main(String[] args) {
        for (int seed = 0; seed < OBJECTS && wrong < 5; seed++) {
            new CartsDownHillModel(seed).go();
        }
        // Each call must have been seen with an answer that is no refusal, or the comparison is worth nothing.
        for (String name : SEEN.keySet()) {
            if (SEEN.get(name)[1] < OBJECTS / 10) {
                wrong++;
                System.out.println("too few answers that are no refusals or NONE: " + name);
            }
        }
        System.out.println(SEEN.size() + " sorts of calls, " + (wrong == 0 ? "all as the model" : wrong + " wrong"));
        if (wrong != 0 || SEEN.size() < SORTS - 2) {
            System.exit(1);
        }
    }

    private void compare(String name, String arguments, long got, long want) {
        calls.add(name + "(" + arguments + ") = " + got);
        int[] seen = SEEN.computeIfAbsent(name, k -> new int[2]);
        seen[0]++;
        if (got >= 0 || got < FULL) {
            seen[1]++;
        }
        if (got != want) {
            wrong++;
            System.out.println("due is " + want + " in the end of:\n  " + String.join("\n  ", calls));
        }
    }

    private void go() {
        boolean late = random.nextInt(20) == 0;
        if (!late) {
            write(hillText());
            compare("hill", "", x.hill(), m.hill());
        }
        int carts = random.nextInt(4) == 0 ? random.nextInt(9) : 4 + random.nextInt(5);
        for (int i = 0; i < carts; i++) {
            write(cartText());
            compare("cart", "", x.cart(), m.cart());
        }
        int before = wrong;
        for (int i = 0; calls.size() < CALLS - MOST_AT_ONCE && wrong == before; i++) {
            call(random.nextInt(SORTS));
            if (i % 20 == 0) {
                compare("digest", "", x.digest(), m.digest());
            }
        }
        // These sorts make one call each, so that the last digest() is just the last call that is promised.
        while (calls.size() < CALLS - 1 && wrong == before) {
            call(pick(4, SORTS - 1));
        }
        if (wrong == before) {
            compare("digest", "", x.digest(), m.digest());
            if (calls.size() != CALLS) {
                wrong++;
                System.out.println("a run of " + calls.size() + " calls");
            }
        }
    }

    private int pick(int from, int to) {
        return from + random.nextInt(to - from + 1);
    }

    /** Mostly from..to, sometimes just beside it or far away. */
    private int about(int from, int to) {
        switch (random.nextInt(60)) {
            case 0: return from - 1;
            case 1: return to + 1;
            case 2: return Integer.MIN_VALUE;
            case 3: return Integer.MAX_VALUE;
            case 4: return from;
            case 5: return to;
            default: return pick(from, to);
        }
    }

    private int cartNumber() {
        return about(0, Math.max(0, m.carts.size() - 1));
    }

    private int swing() {
        switch (random.nextInt(4)) {
            case 0: return about(0, 20);
            case 1: return about(0, 9999);
            default: return about(0, 600);
        }
    }

    private String hillText() {
        StringBuilder text = new StringBuilder();
        int cells = pick(2, 12);
        boolean mild = random.nextBoolean();
        for (int i = 0; i < cells; i++) {
            text.append(i == 0 ? "" : ",").append(random.nextInt(mild ? 4 : 10));
            int what = random.nextInt(mild ? 6 : 4);
            text.append(what == 0 ? "b" + pick(1, mild ? 4 : 9) : what == 1 ? "u" : "");
        }
        return text.toString();
    }

    private String cartText() {
        StringBuilder text = new StringBuilder("w").append(pick(10, 99));
        int losses = pick(0, 5);
        int most = random.nextInt(3) == 0 ? 9 : 3;
        for (int i = 0; i < losses; i++) {
            text.append(',').append("lrtaus".charAt(random.nextInt(6))).append(pick(1, most));
        }
        return text.toString();
    }

    private String oddText() {
        String text = random.nextBoolean() ? hillText() : cartText();
        int at = random.nextInt(text.length());
        String other = String.valueOf("0123456789,buwlrtas x".charAt(random.nextInt(21)));
        switch (random.nextInt(3)) {
            case 0: return text.substring(0, at);
            case 1: return text.substring(0, at) + other + text.substring(at + 1);
            default: return text.substring(0, at) + other + text.substring(at);
        }
    }

    private void write(String text) {
        for (int from = 0; from < text.length(); from += 8) {
            long w = 0;
            for (int i = Math.min(text.length(), from + 8) - 1; i >= from; i--) {
                w = w << 8 | text.charAt(i);
            }
            compare("letters", w + "L", x.letters(w), m.letters(w));
        }
    }

    private void call(int sort) {
        int cart = cartNumber();
        int swing = swing();
        switch (sort) {
            case 0: oddLetters(); break;
            case 1: compare("blank", "", x.blank(), m.blank()); break;
            case 2: case 3: texts(); break;
            case 4: { int c = about(0, 11), w = about(0, 3);
                compare("cell", c + "," + w, x.cell(c, w), m.cell(c, w)); break; }
            case 5: { int w = about(0, 1); compare("about", cart + "," + w, x.about(cart, w), m.about(cart, w)); break; }
            case 6: { int l = about(0, 4), w = about(0, 1);
                compare("loss", cart + "," + l + "," + w, x.loss(cart, l, w), m.loss(cart, l, w)); break; }
            case 7: { int l = about(0, 4), k = about(0, 5);
                compare("as", cart + "," + l + "," + k, x.as(cart, l, k), m.as(cart, l, k)); break; }
            case 8: { int v = about(10, 99); compare("weigh", cart + "," + v, x.weigh(cart, v), m.weigh(cart, v)); break; }
            case 9: { int v = random.nextInt(3) == 0 ? about(1, 99) : about(1, 20);
                compare("grip", "" + v, x.grip(v), m.grip(v)); break; }
            case 10: { int c = about(0, 11), v = about(0, random.nextInt(3) == 0 ? 9 : 2);
                compare("brake", c + "," + v, x.brake(c, v), m.brake(c, v)); break; }
            case 11: case 12: { int w = about(0, 3);
                compare("run", cart + "," + swing + "," + w, x.run(cart, swing, w), m.run(cart, swing, w)); break; }
            case 13: { int c = about(0, 11);
                compare("pace", cart + "," + swing + "," + c, x.pace(cart, swing, c), m.pace(cart, swing, c)); break; }
            case 14: { int l = about(-1, 4);
                compare("lost", cart + "," + swing + "," + l, x.lost(cart, swing, l), m.lost(cart, swing, l)); break; }
            case 15: { int w = about(0, 4); compare("bestBrakes", cart + "," + swing + "," + w,
                x.bestBrakes(cart, swing, w), m.bestBrakes(cart, swing, w)); break; }
            case 16: { int l = about(1, 99), w = about(0, 1); compare("bestPush", cart + "," + l + "," + w,
                x.bestPush(cart, l, w), m.bestPush(cart, l, w)); break; }
            case 17: { int e = about(0, 6), w = about(0, 5); compare("work", cart + "," + swing + "," + e + "," + w,
                x.work(cart, swing, e, w), m.work(cart, swing, e, w)); break; }
            case 18: { int v = about(10, 99); compare("weighed", cart + "," + swing + "," + v,
                x.weighed(cart, swing, v), m.weighed(cart, swing, v)); break; }
            case 19: { int w = about(0, 1); compare("close", swing + "," + w, x.close(swing, w), m.close(swing, w)); break; }
            case 20: compare("farthest", cart + "," + swing, x.farthest(cart, swing), m.farthest(cart, swing)); break;
            default: laterCall(sort, cart, swing); break;
        }
    }

    private void laterCall(int sort, int cart, int swing) {
        int b = cartNumber(), c = cartNumber(), d = cartNumber();
        int slip = random.nextInt(3) == 0 ? about(1, 99) : about(1, 5);
        int shake = about(0, 9);
        String four = cart + "," + b + "," + c + "," + d + "," + swing + "," + slip;
        switch (sort) {
            case 21: someCoast(cart, swing); break;
            case 22: compare("rubs", "", x.rubs(), m.rubs()); break;
            case 23: compare("chance", cart + "," + b + "," + swing + "," + slip,
                x.chance(cart, b, swing, slip), m.chance(cart, b, swing, slip)); break;
            case 24: case 25: { int which = about(0, 3), part = about(0, 1);
                compare("wins", four + "," + which + "," + part, x.wins(cart, b, c, d, swing, slip, which, part),
                    m.wins(cart, b, c, d, swing, slip, which, part)); break; }
            case 26: case 27: compare("plan", four, x.plan(cart, b, c, d, swing, slip),
                m.plan(cart, b, c, d, swing, slip)); break;
            case 28: { int straw = about(0, 15), part = about(0, 1);
                compare("stays", cart + "," + swing + "," + shake + "," + straw + "," + part,
                    x.stays(cart, swing, shake, straw, part), m.stays(cart, swing, shake, straw, part)); break; }
            case 29: { int k = about(1, 4); compare("straw", cart + "," + swing + "," + shake + "," + k,
                x.straw(cart, swing, shake, k), m.straw(cart, swing, shake, k)); break; }
            case 30: compare("image", "", x.image(), m.image()); break;
            case 31: compare("restore", "", x.restore(), m.restore()); break;
            case 32: { int w = about(0, 6); compare("count", "" + w, x.count(w), m.count(w)); break; }
            default: { int s = about(0, 1); compare("fault", "" + s, x.fault(s), m.fault(s)); break; }
        }
    }

    private void oddLetters() {
        long w = 0;
        for (int i = random.nextInt(9); i > 0; i--) {
            w = w << 8 | (random.nextInt(30) == 0 ? random.nextInt(256) : pick(1, 126));
        }
        compare("letters", w + "L", x.letters(w), m.letters(w));
    }

    private void texts() {
        if (random.nextInt(3) > 0) {
            compare("blank", "", x.blank(), m.blank());
        }
        int what = random.nextInt(8);
        write(what == 0 ? hillText() : what <= 3 ? cartText() : oddText());
        compare("fault", "0", x.fault(0), m.fault(0));
        compare("fault", "1", x.fault(1), m.fault(1));
        if (random.nextInt(4) == 0) {
            compare("hill", "", x.hill(), m.hill());
        }
        compare("cart", "", x.cart(), m.cart());
    }

    /** Half of them as the CART would go with some more rubbing, so that rubs() answers more than 0. */
    private void someCoast(int cart, int swing) {
        int cells = about(0, 99);
        if (m.isCart(cart) && swing >= 0 && random.nextInt(4) > 0) {
            cells = Math.min(99, m.flat(m.carts.get(cart), swing, (m.carts.size() + swing) % 3));
        }
        compare("coast", cart + "," + swing + "," + cells, x.coast(cart, swing, cells), m.coast(cart, swing, cells));
    }

    private record Loss(char letter, int n) { }

    private record Cell(int drop, int sharp, boolean bump) { }

    private record Cart(int weight, List<Loss> losses) { }

    private record Coast(int cart, int swing, int cells) { }

    private record Kept(int grip, int[] brakes, List<Integer> weights, List<Coast> coasts, int read) { }

    private static final class Outcome {
        int ending = 0;
        int cell = 0;
        int time = 0;
        int swing = 0;
        final List<Integer> swings = new ArrayList<>();
        final int[] took = new int[6];

        int timeIfDown() {
            return ending == 0 ? time : NONE;
        }
    }

    private static final class Model {
        private static final String CELL = "[0-9](?:b[1-9]|u)?";
        private static final Pattern HILL = Pattern.compile(CELL + "(?:," + CELL + "){1,11}");
        private static final Pattern CART = Pattern.compile("w[1-9][0-9](?:,[lrtaus][1-9]){0,5}");
        private static final String KINDS = "lrtaus";

        String page = "";
        List<Cell> cells = new ArrayList<>();
        int[] brakes = new int[0];
        final List<Cart> carts = new ArrayList<>();
        List<Coast> coasts = new ArrayList<>();
        int grip = 9;
        int read = 0;
        Kept kept = null;

        int letters(long w) {
            String more = "";
            boolean zero = false;
            for (long rest = w, i = 0; i < 8; i++, rest >>>= 8) {
                char code = (char) (rest & 0xFF);
                if (code > 126 || (zero && code > 0)) {
                    return OUTSIDE;
                }
                zero |= code == 0;
                more += zero ? "" : code;
            }
            if ((page + more).length() > 50) {
                return FULL;
            }
            page += more;
            return page.length();
        }

        int blank() {
            int had = page.length();
            page = "";
            return had;
        }

        int fault(int sort) {
            if (sort != 0 && sort != 1) {
                return OUTSIDE;
            }
            for (int length = 1; length <= page.length(); length++) {
                Matcher matcher = (sort == 0 ? HILL : CART).matcher(page.substring(0, length));
                if (!matcher.matches() && !matcher.hitEnd()) {
                    return length - 1;
                }
            }
            return page.length();
        }

        int hill() {
            if (!HILL.matcher(page).matches()) {
                return STATE;
            }
            cells = new ArrayList<>();
            for (String text : page.split(",")) {
                boolean bend = text.indexOf('b') > 0;
                cells.add(new Cell(text.charAt(0) - '0', bend ? text.charAt(2) - '0' : 0, text.endsWith("u")));
            }
            brakes = new int[cells.size()];
            page = "";
            read++;
            return cells.size();
        }

        int cart() {
            if (!CART.matcher(page).matches()) {
                return STATE;
            }
            if (carts.size() == 8) {
                return FULL;
            }
            String[] parts = page.split(",");
            List<Loss> losses = new ArrayList<>();
            for (int i = 1; i < parts.length; i++) {
                losses.add(new Loss(parts[i].charAt(0), parts[i].charAt(1) - '0'));
            }
            carts.add(new Cart(Integer.parseInt(parts[0].substring(1)), losses));
            page = "";
            return carts.size() - 1;
        }

        boolean isCart(int cart) {
            return cart >= 0 && cart < carts.size();
        }

        boolean isLoss(int cart, int loss) {
            return isCart(cart) && loss >= 0 && loss < carts.get(cart).losses.size();
        }

        boolean isCell(int cell) {
            return cell >= 0 && cell < cells.size();
        }

        boolean noHill() {
            return cells.isEmpty();
        }

        static boolean out(int v, int from, int to) {
            return v < from || v > to;
        }

        static boolean noSwing(int swing) {
            return out(swing, 0, 9999);
        }

        int cell(int cell, int what) {
            if (!isCell(cell)) {
                return UNKNOWN;
            }
            if (out(what, 0, 3)) {
                return OUTSIDE;
            }
            Cell c = cells.get(cell);
            return new int[] {c.drop, c.sharp, c.bump ? 1 : 0, brakes[cell]}[what];
        }

        int about(int cart, int what) {
            if (!isCart(cart)) {
                return UNKNOWN;
            }
            return what == 0 ? carts.get(cart).weight : what == 1 ? carts.get(cart).losses.size() : OUTSIDE;
        }

        int loss(int cart, int loss, int what) {
            if (!isLoss(cart, loss)) {
                return UNKNOWN;
            }
            Loss l = carts.get(cart).losses.get(loss);
            return what == 0 ? KINDS.indexOf(l.letter) : what == 1 ? l.n : OUTSIDE;
        }

        int as(int cart, int loss, int kind) {
            if (!isLoss(cart, loss)) {
                return UNKNOWN;
            }
            if (out(kind, 0, 5)) {
                return OUTSIDE;
            }
            String[] kindsOf = {"0", "01", "012", "03", "04", "05"};
            int own = KINDS.indexOf(carts.get(cart).losses.get(loss).letter);
            return kindsOf[own].contains("" + kind) ? loss : NONE;
        }

        int weigh(int cart, int v) {
            if (!isCart(cart)) {
                return UNKNOWN;
            }
            if (out(v, 10, 99)) {
                return OUTSIDE;
            }
            Cart was = carts.set(cart, new Cart(v, carts.get(cart).losses));
            return was.weight;
        }

        int grip(int v) {
            if (out(v, 1, 99)) {
                return OUTSIDE;
            }
            int was = grip;
            grip = v;
            return was;
        }

        int brake(int cell, int v) {
            if (!isCell(cell)) {
                return UNKNOWN;
            }
            if (out(v, 0, 9)) {
                return OUTSIDE;
            }
            int was = brakes[cell];
            brakes[cell] = v;
            return was;
        }

        static int taken(Loss l, int swing, int weight, Cell c) {
            switch (l.letter) {
                case 'l': return l.n;
                case 'r': return l.n + l.n;
                case 't': return c.sharp > 0 ? l.n + l.n * c.sharp : l.n;
                case 'a': return swing * l.n / (weight * 10);
                case 'u': return c.bump ? swing * l.n / 40 : 0;
                default: return l.n * c.drop;
            }
        }

        Outcome ride(Cart cart, int from, int[] braking) {
            Outcome o = new Outcome();
            o.swing = from;
            for (int i = 0; i < cells.size(); i++) {
                Cell c = cells.get(i);
                o.cell = i;
                int then = o.swing + c.drop * 20;
                int left = then;
                for (int l = 0; l < cart.losses.size(); l++) {
                    int taken = taken(cart.losses.get(l), then, cart.weight, c);
                    o.took[l] += taken;
                    left -= taken;
                }
                int byBrake = left <= 0 ? 0 : left * braking[i] / 10;
                o.took[5] += byBrake;
                left -= byBrake;
                if (left <= 0) {
                    o.swing = 0;
                    o.ending = 1;
                    return o;
                }
                o.swing = left;
                o.swings.add(left);
                o.time += 1000 / BigInteger.valueOf(left).sqrt().intValue();
                if (c.sharp > 0 && left > grip * 100 / c.sharp) {
                    o.ending = 2;
                    return o;
                }
            }
            return o;
        }

        int run(int cart, int swing, int what) {
            if (!isCart(cart)) {
                return UNKNOWN;
            }
            if (noHill()) {
                return STATE;
            }
            if (noSwing(swing) || out(what, 0, 3)) {
                return OUTSIDE;
            }
            Outcome o = ride(carts.get(cart), swing, brakes);
            return new int[] {o.ending, o.cell, o.time, o.swing}[what];
        }

        int pace(int cart, int swing, int cell) {
            if (!isCart(cart) || !isCell(cell)) {
                return UNKNOWN;
            }
            if (noSwing(swing)) {
                return OUTSIDE;
            }
            List<Integer> swings = ride(carts.get(cart), swing, brakes).swings;
            return cell < swings.size() ? swings.get(cell) : NONE;
        }

        int lost(int cart, int swing, int loss) {
            if (!isCart(cart) || (loss != -1 && !isLoss(cart, loss))) {
                return UNKNOWN;
            }
            if (noHill()) {
                return STATE;
            }
            if (noSwing(swing)) {
                return OUTSIDE;
            }
            return ride(carts.get(cart), swing, brakes).took[loss == -1 ? 5 : loss];
        }

        List<Integer> bends() {
            List<Integer> bends = new ArrayList<>();
            for (int i = 0; i < cells.size(); i++) {
                if (cells.get(i).sharp > 0) {
                    bends.add(i);
                }
            }
            return bends;
        }

        int bestBrakes(int cart, int swing, int what) {
            if (!isCart(cart)) {
                return UNKNOWN;
            }
            if (noHill()) {
                return STATE;
            }
            if (noSwing(swing) || out(what, 0, 4)) {
                return OUTSIDE;
            }
            int[] best = null;
            List<Integer> bends = bends();
            for (int way = 0; way < 256; way++) {
                int[] tried = {0, 3 * (way / 64), 3 * (way / 16 % 4), 3 * (way / 4 % 4), 3 * (way % 4)};
                int[] braking = new int[cells.size()];
                for (int b = 0; b < 4; b++) {
                    if (b >= bends.size() || bends.get(b) == 0) {
                        tried[b + 1] = NONE;
                    } else {
                        braking[bends.get(b) - 1] = tried[b + 1];
                    }
                }
                Outcome o = ride(carts.get(cart), swing, braking);
                tried[0] = o.time;
                if (o.ending == 0 && (best == null || Arrays.compare(tried, best) < 0)) {
                    best = tried;
                }
            }
            return best == null ? NONE : best[what];
        }

        int bestPush(int cart, int legs, int what) {
            if (!isCart(cart)) {
                return UNKNOWN;
            }
            if (noHill()) {
                return STATE;
            }
            if (out(legs, 1, 99) || out(what, 0, 1)) {
                return OUTSIDE;
            }
            int bestK = NONE;
            int bestTime = NONE;
            for (int k = 20; k >= 0; k--) {
                Outcome o = ride(carts.get(cart), 10 * legs * k / carts.get(cart).weight, brakes);
                int time = o.time + k * 60;
                if (o.ending == 0 && (bestK == NONE || time <= bestTime)) {
                    bestK = k;
                    bestTime = time;
                }
            }
            return what == 0 ? bestK : bestTime;
        }

        int work(int cart, int swing, int evenings, int what) {
            if (!isCart(cart)) {
                return UNKNOWN;
            }
            if (noHill()) {
                return STATE;
            }
            if (noSwing(swing) || out(evenings, 0, 6) || out(what, 0, 5)) {
                return OUTSIDE;
            }
            int[] best = mend(carts.get(cart), swing, evenings, 0, new int[6], null);
            if (best == null) {
                return NONE;
            }
            return what > carts.get(cart).losses.size() ? NONE : best[what];
        }

        /** The best of TIME and evenings for each LOSS, as rows that are compared from their first number on. */
        int[] mend(Cart cart, int swing, int left, int from, int[] used, int[] best) {
            if (from == cart.losses.size()) {
                List<Loss> losses = new ArrayList<>();
                for (int i = 0; i < cart.losses.size(); i++) {
                    Loss l = cart.losses.get(i);
                    losses.add(new Loss(l.letter, Math.max(0, l.n - used[i + 1])));
                }
                Outcome o = ride(new Cart(cart.weight, losses), swing, brakes);
                int[] row = used.clone();
                row[0] = o.time;
                boolean better = o.ending == 0 && (best == null || Arrays.compare(row, best) < 0);
                return better ? row : best;
            }
            for (int evenings = 0; evenings <= left; evenings++) {
                used[from + 1] = evenings;
                best = mend(cart, swing, left - evenings, from + 1, used, best);
                used[from + 1] = 0;
            }
            return best;
        }

        int weighed(int cart, int swing, int weight) {
            if (!isCart(cart)) {
                return UNKNOWN;
            }
            if (noHill()) {
                return STATE;
            }
            if (noSwing(swing) || out(weight, 10, 99)) {
                return OUTSIDE;
            }
            return ride(new Cart(weight, carts.get(cart).losses), swing, brakes).timeIfDown();
        }

        int close(int swing, int what) {
            if (noHill() || carts.isEmpty()) {
                return STATE;
            }
            if (noSwing(swing) || out(what, 0, 1)) {
                return OUTSIDE;
            }
            int[] best = {NONE, NONE};
            for (int limit = 10; limit <= 99; limit++) {
                List<Integer> times = new ArrayList<>();
                for (Cart cart : carts) {
                    Cart lighter = new Cart(Math.min(limit, cart.weight), cart.losses);
                    times.add(ride(lighter, swing, brakes).timeIfDown());
                }
                times.sort(null);
                int apart = times.get(times.size() - 1) - times.get(0);
                if (times.get(0) != NONE && (best[0] == NONE || apart <= best[1])) {
                    best = new int[] {limit, apart};
                }
            }
            return best[what];
        }

        int flat(Cart cart, int swing, int rubbed) {
            List<Loss> losses = new ArrayList<>(cart.losses);
            losses.add(new Loss('r', rubbed));
            int through = 0;
            for (int left = swing; through < 999; through++) {
                int then = left;
                for (Loss l : losses) {
                    left -= taken(l, then, cart.weight, new Cell(0, 0, false));
                }
                if (left <= 0) {
                    return through;
                }
            }
            return through;
        }

        int farthest(int cart, int swing) {
            return !isCart(cart) ? UNKNOWN : noSwing(swing) ? OUTSIDE : flat(carts.get(cart), swing, 0);
        }

        int coast(int cart, int swing, int soMany) {
            if (!isCart(cart)) {
                return UNKNOWN;
            }
            if (noSwing(swing) || out(soMany, 0, 99)) {
                return OUTSIDE;
            }
            if (coasts.size() == 8) {
                return FULL;
            }
            coasts.add(new Coast(cart, swing, soMany));
            return coasts.size();
        }

        int rubs() {
            int bits = 1023;
            for (Coast c : coasts) {
                for (int n = 0; n <= 9; n++) {
                    if (flat(carts.get(c.cart), c.swing, n) != c.cells) {
                        bits &= ~(1 << n);
                    }
                }
            }
            return bits;
        }

        int against(int a, int b, int swing, int slip) {
            Outcome one = ride(carts.get(a), swing, brakes);
            Outcome other = ride(carts.get(b), swing, brakes);
            if (one.ending != 0 || other.ending != 0) {
                return one.ending == 0 ? 10 : other.ending == 0 ? 0 : 5;
            }
            if (one.time > other.time) {
                return 10 - against(b, a, swing, slip);
            }
            return Math.min(10, 5 + (other.time - one.time) / 100 / slip);
        }

        int chance(int a, int b, int swing, int slip) {
            if (!isCart(a) || !isCart(b)) {
                return UNKNOWN;
            }
            if (noHill()) {
                return STATE;
            }
            return noSwing(swing) || out(slip, 1, 99) ? OUTSIDE : against(a, b, swing, slip);
        }

        int refusedFour(int swing, int slip, int... four) {
            for (int cart : four) {
                if (!isCart(cart)) {
                    return UNKNOWN;
                }
            }
            if (noHill() || Arrays.stream(four).distinct().count() < 4) {
                return STATE;
            }
            return noSwing(swing) || out(slip, 1, 99) ? OUTSIDE : 0;
        }

        /** Thousandths by which each of the four wins: a against b, c against d, then those who won. */
        int[] heats(int swing, int slip, int... four) {
            int[] won = new int[4];
            for (int i = 0; i < 2; i++) {
                for (int j = 2; j < 4; j++) {
                    int met = against(four[i], four[1 - i], swing, slip) * against(four[j], four[5 - j], swing, slip);
                    won[i] += met * against(four[i], four[j], swing, slip);
                    won[j] += met * against(four[j], four[i], swing, slip);
                }
            }
            return won;
        }

        int wins(int a, int b, int c, int d, int swing, int slip, int which, int part) {
            int refused = refusedFour(swing, slip, a, b, c, d);
            if (refused != 0) {
                return refused;
            }
            if (out(which, 0, 3) || out(part, 0, 1)) {
                return OUTSIDE;
            }
            return (int) inLowest(heats(swing, slip, a, b, c, d)[which], 1000, part);
        }

        static long inLowest(long above, long below, int part) {
            BigInteger common = BigInteger.valueOf(above).gcd(BigInteger.valueOf(below));
            return (part == 0 ? above : below) / common.longValue();
        }

        int plan(int a, int b, int c, int d, int swing, int slip) {
            int refused = refusedFour(swing, slip, a, b, c, d);
            if (refused != 0) {
                return refused;
            }
            int[] four = {a, b, c, d};
            int first = a;
            int least = Integer.MAX_VALUE;
            for (int cart : four) {
                Outcome o = ride(carts.get(cart), swing, brakes);
                if (o.ending == 0 && o.time < least) {
                    least = o.time;
                    first = cart;
                }
            }
            int[][] ways = {{a, b, c, d}, {a, c, b, d}, {a, d, b, c}};
            int best = NONE;
            int bestWay = NONE;
            for (int way = 0; way < 3; way++) {
                int[] won = heats(swing, slip, ways[way]);
                for (int i = 0; i < 4; i++) {
                    if (ways[way][i] == first && won[i] > best) {
                        best = won[i];
                        bestWay = way;
                    }
                }
            }
            return bestWay;
        }

        /** In so many of 100 to the fourth it STAYS. */
        long staying(int cart, int swing, int shake, int straw) {
            Outcome o = ride(carts.get(cart), swing, brakes);
            List<Integer> bends = bends();
            long likely = 100_000_000L;
            for (int b = 0; b < Math.min(4, bends.size()); b++) {
                if ((straw & 1 << b) == 0 && bends.get(b) < o.swings.size()) {
                    int there = o.swings.get(bends.get(b));
                    int bearable = 100 * grip / cells.get(bends.get(b)).sharp;
                    int tenths = Math.min(10, there * 10 / bearable);
                    likely = likely / 100 * (there > bearable ? 0 : 100 - tenths * shake);
                }
            }
            return likely;
        }

        long stays(int cart, int swing, int shake, int straw, int part) {
            if (!isCart(cart)) {
                return UNKNOWN;
            }
            if (noHill()) {
                return STATE;
            }
            if (noSwing(swing) || out(shake, 0, 9) || out(straw, 0, 15) || out(part, 0, 1)) {
                return OUTSIDE;
            }
            return inLowest(staying(cart, swing, shake, straw), 100_000_000L, part);
        }

        int straw(int cart, int swing, int shake, int k) {
            if (!isCart(cart)) {
                return UNKNOWN;
            }
            if (noHill()) {
                return STATE;
            }
            if (noSwing(swing) || out(shake, 0, 9) || out(k, 1, 4)) {
                return OUTSIDE;
            }
            if (bends().size() < k) {
                return STATE;
            }
            long best = NONE;
            int bits = NONE;
            for (int set = 15; set >= 0; set--) {
                boolean there = set < 1 << Math.min(4, bends().size());
                if (there && Integer.bitCount(set) == k && staying(cart, swing, shake, set) >= best) {
                    best = staying(cart, swing, shake, set);
                    bits = set;
                }
            }
            return bits;
        }

        int image() {
            if (noHill()) {
                return STATE;
            }
            List<Integer> weights = new ArrayList<>();
            for (Cart cart : carts) {
                weights.add(cart.weight);
            }
            kept = new Kept(grip, brakes.clone(), weights, new ArrayList<>(coasts), read);
            return carts.size();
        }

        int restore() {
            if (kept == null || kept.read != read) {
                return STATE;
            }
            grip = kept.grip;
            brakes = kept.brakes.clone();
            coasts = new ArrayList<>(kept.coasts);
            for (int i = 0; i < kept.weights.size(); i++) {
                carts.set(i, new Cart(kept.weights.get(i), carts.get(i).losses));
            }
            return carts.size();
        }

        int count(int what) {
            int[] all = {cells.size(), bends().size(), carts.size(), coasts.size(), page.length(), read, grip};
            return out(what, 0, 6) ? OUTSIDE : all[what];
        }

        long digest() {
            List<Integer> told = new ArrayList<>();
            for (int c = 0; c < cells.size(); c++) {
                told.addAll(List.of(cell(c, 0), cell(c, 1), cell(c, 2), cell(c, 3)));
            }
            for (int c = 0; c < carts.size(); c++) {
                told.addAll(List.of(about(c, 0), about(c, 1)));
                for (int l = 0; l < carts.get(c).losses.size(); l++) {
                    told.addAll(List.of(loss(c, l, 0), loss(c, l, 1)));
                }
                told.add(farthest(c, 400));
                if (!noHill()) {
                    told.addAll(List.of(run(c, 100, 0), run(c, 100, 1), run(c, 100, 2), run(c, 100, 3)));
                }
            }
            for (Coast c : coasts) {
                told.addAll(List.of(c.cart, c.swing, c.cells));
            }
            told.add(rubs());
            page.chars().forEach(told::add);
            for (int what = 0; what <= 6; what++) {
                told.add(count(what));
            }
            long h = 491;
            for (int number : told) {
                h = 31 * h + number;
            }
            return h;
        }
    }
}
