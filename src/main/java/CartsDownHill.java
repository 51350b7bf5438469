import java.util.Arrays;

/** Carts without motors on a hill that is told as a text; DOC.md says what each call promises. */
public final class CartsDownHill {
    public static final int NONE = -1, UNKNOWN = -101, OUTSIDE = -102, STATE = -103, FULL = -104;

    private static final int FINE = 0;
    private static final int MOST_LETTERS = 50, MOST_CELLS = 12, MOST_CARTS = 8, MOST_LOSSES = 5;
    private static final int MOST_COASTS = 8, MOST_STRAW = 4, MOST_FLAT = 999;
    private static final int LEAST_WEIGHT = 10, MOST_WEIGHT = 99;
    private static final int RUBBED = 1, TOED = 2, AIRED = 3, BUMPED = 4, TURNED = 5, KINDS = 6;
    private static final int DOWN = 0, STANDS = 1, LEAVES = 2;
    private static final int HILL_SORT = 0, CART_SORT = 1;
    private static final int MOST_WORKS = 1000;
    /** PACE is 1 at least, so a CELL takes 1000 at most. */
    private static final int MOST_TIME = 1000 * MOST_CELLS;
    private static final String KIND_LETTERS = "lrtaus";

    private final Page page;
    private final Hill slope;
    private final Cart[] carts;
    private final Coasts coasts;
    private final Image kept;
    private final Ride ride;
    private final Best best;
    /** TIMES of the four CARTS of HEATS, NONE for one that is not DOWN. */
    private final int[] times;
    /** For each of the first four BENDS, in how many hundredths it does not LEAVE there. */
    private final int[] safe;
    private int cartCount;
    private int holds;

    public CartsDownHill() {
        page = new Page();
        slope = new Hill();
        carts = new Cart[MOST_CARTS];
        for (int i = 0; i < MOST_CARTS; i++) {
            carts[i] = new Cart();
        }
        coasts = new Coasts();
        kept = new Image();
        ride = new Ride(slope);
        best = new Best();
        times = new int[4];
        safe = new int[MOST_STRAW];
        cartCount = 0;
        holds = 9;
    }

    // ---- texts

    public int letters(long w) {
        int more = 0;
        boolean ended = false;
        for (int i = 0; i < 8; i++) {
            int code = codeAt(w, i);
            if (code > 126 || (ended && code != 0)) {
                return OUTSIDE;
            }
            if (code == 0) {
                ended = true;
            } else {
                more++;
            }
        }
        if (page.size + more > MOST_LETTERS) {
            return FULL;
        }
        for (int i = 0; i < more; i++) {
            page.put(codeAt(w, i));
        }
        return page.size;
    }

    public int blank() {
        int had = page.size;
        page.size = 0;
        return had;
    }

    public int fault(int sort) {
        if (sort == HILL_SORT) {
            return page.hillFault();
        }
        return sort == CART_SORT ? page.cartFault() : OUTSIDE;
    }

    public int hill() {
        if (!page.isHill()) {
            return STATE;
        }
        slope.read(page);
        page.size = 0;
        return slope.size;
    }

    public int cart() {
        if (!page.isCart()) {
            return STATE;
        }
        if (cartCount >= MOST_CARTS) {
            return FULL;
        }
        carts[cartCount].read(page);
        page.size = 0;
        cartCount++;
        return cartCount - 1;
    }

    public int cell(int cell, int what) {
        if (!isCell(cell)) {
            return UNKNOWN;
        }
        switch (what) {
            case 0: return slope.drop[cell];
            case 1: return slope.sharp[cell];
            case 2: return slope.bump[cell];
            case 3: return slope.brakes[cell];
            default: return OUTSIDE;
        }
    }

    public int about(int cart, int what) {
        if (!isCart(cart)) {
            return UNKNOWN;
        }
        switch (what) {
            case 0: return carts[cart].weight;
            case 1: return carts[cart].size;
            default: return OUTSIDE;
        }
    }

    public int loss(int cart, int loss, int what) {
        if (!isLoss(cart, loss)) {
            return UNKNOWN;
        }
        switch (what) {
            case 0: return carts[cart].kind[loss];
            case 1: return carts[cart].n[loss];
            default: return OUTSIDE;
        }
    }

    public int as(int cart, int loss, int kind) {
        if (!isLoss(cart, loss)) {
            return UNKNOWN;
        }
        if (!isWithin(kind, 0, KINDS - 1)) {
            return OUTSIDE;
        }
        return isOfKind(carts[cart].kind[loss], kind) ? loss : NONE;
    }

    // ---- hands

    public int weigh(int cart, int v) {
        if (!isCart(cart)) {
            return UNKNOWN;
        }
        if (!isWithin(v, LEAST_WEIGHT, MOST_WEIGHT)) {
            return OUTSIDE;
        }
        int was = carts[cart].weight;
        carts[cart].weight = v;
        return was;
    }

    public int grip(int v) {
        if (!isWithin(v, 1, 99)) {
            return OUTSIDE;
        }
        int was = holds;
        holds = v;
        return was;
    }

    public int brake(int cell, int v) {
        if (!isCell(cell)) {
            return UNKNOWN;
        }
        if (!isWithin(v, 0, 9)) {
            return OUTSIDE;
        }
        int was = slope.brakes[cell];
        slope.brakes[cell] = v;
        return was;
    }

    // ---- runs

    public int run(int cart, int swing, int what) {
        int refusal = refusalOfRun(cart, swing, isWithin(what, 0, 3));
        if (refusal != FINE) {
            return refusal;
        }
        goDown(cart, swing);
        return ride.tell(what);
    }

    public int pace(int cart, int swing, int cell) {
        if (!isCart(cart) || !isCell(cell)) {
            return UNKNOWN;
        }
        if (!isSwing(swing)) {
            return OUTSIDE;
        }
        goDown(cart, swing);
        return ride.swingIn[cell];
    }

    public int lost(int cart, int swing, int loss) {
        if (loss != -1 && !isLoss(cart, loss)) {
            return UNKNOWN;
        }
        int refusal = refusalOfRun(cart, swing, true);
        if (refusal != FINE) {
            return refusal;
        }
        goDown(cart, swing);
        return loss == -1 ? ride.braked : ride.took[loss];
    }

    public int bestBrakes(int cart, int swing, int what) {
        int refusal = refusalOfRun(cart, swing, isWithin(what, 0, 4));
        if (refusal != FINE) {
            return refusal;
        }
        ride.mount(carts[cart], holds);
        best.clear();
        for (int way = 0; way < 256; way++) {
            tryBrakes(way, swing);
        }
        if (what == 0 || best.time == NONE) {
            return best.time;
        }
        return isBraked(what - 1) ? 3 * choice(best.way, what - 1) : NONE;
    }

    public int bestPush(int cart, int legs, int what) {
        int refusal = refusalOfRun(cart, 0, isWithin(legs, 1, 99) && isWithin(what, 0, 1));
        if (refusal != FINE) {
            return refusal;
        }
        ride.mount(carts[cart], holds);
        best.clear();
        for (int k = 0; k <= 20; k++) {
            ride.go(by(k * legs * 10, ride.weight));
            if (ride.ending == DOWN) {
                best.offer(ride.time + 60 * k, k);
            }
        }
        return what == 0 ? best.way : best.time;
    }

    public int work(int cart, int swing, int evenings, int what) {
        int refusal = refusalOfRun(cart, swing, isWithin(evenings, 0, 6) && isWithin(what, 0, 5));
        if (refusal != FINE) {
            return refusal;
        }
        ride.mount(carts[cart], holds);
        best.clear();
        boolean more = true;
        for (int way = 0; more && way < MOST_WORKS; way++) {
            ride.go(swing);
            if (ride.ending == DOWN && best.offer(ride.time, way)) {
                best.keepRow(ride.spent);
            }
            more = ride.spendNext(evenings);
        }
        if (what == 0 || best.time == NONE) {
            return best.time;
        }
        return what <= ride.size ? best.row[what - 1] : NONE;
    }

    public int weighed(int cart, int swing, int weight) {
        int refusal = refusalOfRun(cart, swing, isWithin(weight, LEAST_WEIGHT, MOST_WEIGHT));
        if (refusal != FINE) {
            return refusal;
        }
        return timeAt(cart, swing, weight);
    }

    public int close(int swing, int what) {
        if (slope.size == 0 || cartCount == 0) {
            return STATE;
        }
        if (!isSwing(swing) || !isWithin(what, 0, 1)) {
            return OUTSIDE;
        }
        best.clear();
        // From the greatest limit down: of like ones the first offered stays.
        for (int limit = MOST_WEIGHT; limit >= LEAST_WEIGHT; limit--) {
            int apart = apartBy(limit, swing);
            if (apart != NONE) {
                best.offer(apart, limit);
            }
        }
        return what == 0 ? best.way : best.time;
    }

    public int farthest(int cart, int swing) {
        if (!isCart(cart)) {
            return UNKNOWN;
        }
        if (!isSwing(swing)) {
            return OUTSIDE;
        }
        return flatCells(cart, swing);
    }

    public int coast(int cart, int swing, int cells) {
        if (!isCart(cart)) {
            return UNKNOWN;
        }
        if (!isSwing(swing) || !isWithin(cells, 0, 99)) {
            return OUTSIDE;
        }
        if (coasts.size >= MOST_COASTS) {
            return FULL;
        }
        coasts.put(cart, swing, cells);
        return coasts.size;
    }

    public int rubs() {
        int bits = 0;
        for (int n = 0; n <= 9; n++) {
            if (allCoastsAreSo(n)) {
                bits |= 1 << n;
            }
        }
        return bits;
    }

    // ---- heats

    public int chance(int a, int b, int swing, int slip) {
        if (!isCart(a) || !isCart(b)) {
            return UNKNOWN;
        }
        int refusal = refusalOfRun(a, swing, isWithin(slip, 1, 99));
        if (refusal != FINE) {
            return refusal;
        }
        return tenths(timeOf(a, swing), timeOf(b, swing), slip);
    }

    public int wins(int a, int b, int c, int d, int swing, int slip, int which, int part) {
        int refusal = refusalOfFour(a, b, c, d);
        if (refusal != FINE) {
            return refusal;
        }
        if (!isSwing(swing) || !isWithin(slip, 1, 99) || !isWithin(which, 0, 3) || !isWithin(part, 0, 1)) {
            return OUTSIDE;
        }
        takeTimes(a, b, c, d, swing);
        return (int) lowest(thousandths(which, 1, slip), 1000, part);
    }

    public int plan(int a, int b, int c, int d, int swing, int slip) {
        int refusal = refusalOfFour(a, b, c, d);
        if (refusal != FINE) {
            return refusal;
        }
        if (!isSwing(swing) || !isWithin(slip, 1, 99)) {
            return OUTSIDE;
        }
        takeTimes(a, b, c, d, swing);
        int quickest = quickestOfFour();
        int likeliest = NONE;
        int likeliestWay = 0;
        for (int way = 0; way < 3; way++) {
            int likely = thousandths(quickest, way + 1, slip);
            if (likely > likeliest) {
                likeliest = likely;
                likeliestWay = way;
            }
        }
        return likeliestWay;
    }

    public long stays(int cart, int swing, int shake, int straw, int part) {
        boolean told = isWithin(shake, 0, 9) && isWithin(straw, 0, 15) && isWithin(part, 0, 1);
        int refusal = refusalOfRun(cart, swing, told);
        if (refusal != FINE) {
            return refusal;
        }
        goDown(cart, swing);
        weighBends(shake);
        return lowest(stayingWith(straw), 100000000L, part);
    }

    public int straw(int cart, int swing, int shake, int k) {
        int refusal = refusalOfRun(cart, swing, isWithin(shake, 0, 9) && isWithin(k, 1, MOST_STRAW));
        if (refusal != FINE) {
            return refusal;
        }
        int bends = slope.bends();
        if (bends < k) {
            return STATE;
        }
        goDown(cart, swing);
        weighBends(shake);
        long likeliest = NONE;
        int bits = 0;
        for (int set = 1; set < 1 << Math.min(bends, MOST_STRAW); set++) {
            if (Integer.bitCount(set) == k && stayingWith(set) > likeliest) {
                likeliest = stayingWith(set);
                bits = set;
            }
        }
        return bits;
    }

    // ---- what is told

    public int image() {
        if (slope.size == 0) {
            return STATE;
        }
        kept.hillsRead = slope.timesRead;
        kept.holds = holds;
        kept.cartCount = cartCount;
        for (int i = 0; i < cartCount; i++) {
            kept.weights[i] = carts[i].weight;
        }
        System.arraycopy(slope.brakes, 0, kept.brakes, 0, MOST_CELLS);
        kept.coasts.copy(coasts);
        return cartCount;
    }

    public int restore() {
        // A HILL is read before an IMAGE can be kept, so 0 means that none was kept.
        if (kept.hillsRead == 0 || kept.hillsRead != slope.timesRead) {
            return STATE;
        }
        holds = kept.holds;
        for (int i = 0; i < kept.cartCount; i++) {
            carts[i].weight = kept.weights[i];
        }
        System.arraycopy(kept.brakes, 0, slope.brakes, 0, MOST_CELLS);
        coasts.copy(kept.coasts);
        return cartCount;
    }

    public int count(int what) {
        switch (what) {
            case 0: return slope.size;
            case 1: return slope.bends();
            case 2: return cartCount;
            case 3: return coasts.size;
            case 4: return page.size;
            case 5: return slope.timesRead;
            case 6: return holds;
            default: return OUTSIDE;
        }
    }

    public long digest() {
        long h = 491;
        for (int c = 0; c < slope.size; c++) {
            for (int what = 0; what <= 3; what++) {
                h = mixed(h, cell(c, what));
            }
        }
        for (int i = 0; i < cartCount; i++) {
            h = mixedCart(h, i);
        }
        for (int i = 0; i < coasts.size; i++) {
            h = mixed(h, coasts.cart[i]);
            h = mixed(h, coasts.swing[i]);
            h = mixed(h, coasts.cells[i]);
        }
        h = mixed(h, rubs());
        for (int i = 0; i < page.size; i++) {
            h = mixed(h, page.letter[i]);
        }
        for (int what = 0; what <= 6; what++) {
            h = mixed(h, count(what));
        }
        return h;
    }

    // ---- what the calls share

    private boolean isCart(int cart) {
        return cart >= 0 && cart < cartCount;
    }

    private boolean isLoss(int cart, int loss) {
        return isCart(cart) && loss >= 0 && loss < carts[cart].size;
    }

    private boolean isCell(int cell) {
        return cell >= 0 && cell < slope.size;
    }

    private static boolean isWithin(int v, int least, int most) {
        return v >= least && v <= most;
    }

    private static boolean isSwing(int swing) {
        return isWithin(swing, 0, 9999);
    }

    private static boolean isOfKind(int kind, int asked) {
        return asked == 0 || asked == kind || (asked == RUBBED && kind == TOED);
    }

    private static int codeAt(long w, int place) {
        return (int) (w >>> (8 * place)) & 255;
    }

    /** Rounded down, for numbers from 0 on; no divisor of this program is below 1. */
    private static int by(int above, int below) {
        return below > 0 ? above / below : 0;
    }

    /** othersAreTold: whether the arguments that only this call has are as told. */
    private int refusalOfRun(int cart, int swing, boolean othersAreTold) {
        if (!isCart(cart)) {
            return UNKNOWN;
        }
        if (slope.size == 0) {
            return STATE;
        }
        return isSwing(swing) && othersAreTold ? FINE : OUTSIDE;
    }

    private int refusalOfFour(int a, int b, int c, int d) {
        if (!isCart(a) || !isCart(b) || !isCart(c) || !isCart(d)) {
            return UNKNOWN;
        }
        boolean twoAlike = a == b || a == c || a == d || b == c || b == d || c == d;
        return slope.size == 0 || twoAlike ? STATE : FINE;
    }

    private void goDown(int cart, int swing) {
        ride.mount(carts[cart], holds);
        ride.go(swing);
    }

    /** TIME of a RUN; NONE: it is not DOWN. */
    private int timeOf(int cart, int swing) {
        ride.mount(carts[cart], holds);
        ride.go(swing);
        return ride.timeIfDown();
    }

    /** TIME by another WEIGHT; NONE: it is not DOWN. */
    private int timeAt(int cart, int swing, int weight) {
        ride.mount(carts[cart], holds);
        ride.weight = weight;
        ride.go(swing);
        return ride.timeIfDown();
    }

    /** A way to brake has two bits for each BEND, the first one highest, so that ways come in the order of likes. */
    private static int choice(int way, int bend) {
        return (way >> (6 - 2 * bend)) & 3;
    }

    private boolean isBraked(int bend) {
        return slope.bendAt(bend) > 0;
    }

    private void tryBrakes(int way, int swing) {
        Arrays.fill(ride.brakes, 0);
        for (int bend = 0; bend < 4; bend++) {
            int braking = 3 * choice(way, bend);
            int ahead = slope.bendAt(bend) - 1;
            if (ahead >= 0) {
                ride.brakes[ahead] = braking;
            } else if (braking > 0) {
                return;
            }
        }
        ride.go(swing);
        if (ride.ending == DOWN) {
            best.offer(ride.time, way);
        }
    }

    /** The greatest TIME less the least one by a limit of WEIGHT; NONE: not all are DOWN. */
    private int apartBy(int limit, int swing) {
        int least = MOST_TIME;
        int greatest = 0;
        for (int i = 0; i < cartCount; i++) {
            int time = timeAt(i, swing, Math.min(limit, carts[i].weight));
            if (time == NONE) {
                return NONE;
            }
            least = Math.min(least, time);
            greatest = Math.max(greatest, time);
        }
        return greatest - least;
    }

    private int flatCells(int cart, int swing) {
        ride.mount(carts[cart], holds);
        return ride.goFlat(swing, 0, MOST_FLAT);
    }

    private boolean allCoastsAreSo(int rubbed) {
        for (int i = 0; i < coasts.size; i++) {
            ride.mount(carts[coasts.cart[i]], holds);
            int cells = coasts.cells[i];
            // One CELL more than told is enough to see that it goes too far.
            if (ride.goFlat(coasts.swing[i], rubbed, cells + 1) != cells) {
                return false;
            }
        }
        return true;
    }

    private static int tenths(int mine, int other, int slip) {
        if (mine == other) {
            return 5;
        }
        if (mine == NONE) {
            return 0;
        }
        if (other == NONE) {
            return 10;
        }
        int more = Math.min(5, by(Math.abs(other - mine), 100 * slip));
        return mine < other ? 5 + more : 5 - more;
    }

    private void takeTimes(int a, int b, int c, int d, int swing) {
        times[0] = timeOf(a, swing);
        times[1] = timeOf(b, swing);
        times[2] = timeOf(c, swing);
        times[3] = timeOf(d, swing);
    }

    private int quickestOfFour() {
        int quickest = 0;
        for (int i = 1; i < 4; i++) {
            boolean isQuicker = times[quickest] == NONE || times[i] < times[quickest];
            if (times[i] != NONE && isQuicker) {
                quickest = i;
            }
        }
        return quickest;
    }

    /**
     * How likely one of the four wins, in thousandths, if each place i meets place (i xor step) first: the steps
     * 1, 2, 3 are the three ways to put four in pairs.
     */
    private int thousandths(int one, int step, int slip) {
        int mine = times[one & 3];
        int mate = times[(one ^ step) & 3];
        int third = times[(one ^ (step % 3 + 1)) & 3];
        int fourth = times[(one ^ ((step + 1) % 3 + 1)) & 3];
        int overThird = tenths(third, fourth, slip) * tenths(mine, third, slip);
        int overFourth = tenths(fourth, third, slip) * tenths(mine, fourth, slip);
        return tenths(mine, mate, slip) * (overThird + overFourth);
    }

    private void weighBends(int shake) {
        for (int bend = 0; bend < MOST_STRAW; bend++) {
            safe[bend] = 100;
            int cell = slope.bendAt(bend);
            if (cell != NONE && ride.swingIn[cell] != NONE) {
                safe[bend] = safeHundredths(ride.swingIn[cell], ride.bearable(cell), shake);
            }
        }
    }

    private static int safeHundredths(int swing, int bearable, int shake) {
        if (swing > bearable) {
            return 0;
        }
        return 100 - Math.min(10, by(10 * swing, bearable)) * shake;
    }

    /** In so many of 100 to the fourth it STAYS; bends with straw, or to which it does not come, count as 100. */
    private long stayingWith(int straw) {
        long likely = 1;
        for (int bend = 0; bend < MOST_STRAW; bend++) {
            boolean hasStraw = (straw >> bend & 1) == 1;
            likely *= hasStraw ? 100 : safe[bend];
        }
        return likely;
    }

    private static long lowest(long above, long below, int part) {
        long a = above;
        long b = below;
        for (int i = 0; i < 100 && b != 0; i++) {
            long rest = a % b;
            a = b;
            b = rest;
        }
        long told = part == 0 ? above : below;
        return a > 0 ? told / a : told;
    }

    private static long mixed(long h, int number) {
        return 31 * h + number;
    }

    private long mixedCart(long from, int cart) {
        long h = mixed(mixed(from, carts[cart].weight), carts[cart].size);
        for (int i = 0; i < carts[cart].size; i++) {
            h = mixed(mixed(h, carts[cart].kind[i]), carts[cart].n[i]);
        }
        h = mixed(h, flatCells(cart, 400));
        if (slope.size > 0) {
            goDown(cart, 100);
            for (int what = 0; what <= 3; what++) {
                h = mixed(h, ride.tell(what));
            }
        }
        return h;
    }

    /** THE PAGE, and which texts it can be. */
    private static final class Page {
        private final int[] letter = new int[MOST_LETTERS];
        private int size = 0;

        private void put(int code) {
            if (size < MOST_LETTERS) {
                letter[size] = code;
                size++;
            }
        }

        /** 0 stands for no letter: no letter has that code. */
        private int at(int place) {
            return place >= 0 && place < size ? letter[place] : 0;
        }

        private int digitAt(int place) {
            return at(place) - '0';
        }

        private boolean isDigit(int place, int least) {
            return digitAt(place) >= least && digitAt(place) <= 9;
        }

        private int hillFault() {
            int cells = 1;
            for (int place = 0; place < size; place++) {
                if (!fitsHill(place, cells < MOST_CELLS)) {
                    return place;
                }
                if (at(place) == ',') {
                    cells++;
                }
            }
            return size;
        }

        /** Whether a letter may stand behind those ahead of it, which are fine. */
        private boolean fitsHill(int place, boolean moreCells) {
            int ahead = at(place - 1);
            if (ahead == 0 || ahead == ',') {
                return isDigit(place, 0);
            }
            if (ahead == 'b') {
                return isDigit(place, 1);
            }
            if (at(place) == ',') {
                return moreCells;
            }
            boolean behindDrop = ahead != 'u' && at(place - 2) != 'b';
            return behindDrop && (at(place) == 'b' || at(place) == 'u');
        }

        private boolean isHill() {
            int last = at(size - 1);
            return hillFault() == size && last != ',' && last != 'b' && commas() > 0;
        }

        private int commas() {
            int commas = 0;
            for (int place = 0; place < size; place++) {
                if (at(place) == ',') {
                    commas++;
                }
            }
            return commas;
        }

        private int cartFault() {
            for (int place = 0; place < size; place++) {
                if (!fitsCart(place)) {
                    return place;
                }
            }
            return size;
        }

        /** A CART's text comes in threes: "w" and two digits, then "," and a letter and a digit for each LOSS. */
        private boolean fitsCart(int place) {
            if (place >= 3 + 3 * MOST_LOSSES) {
                return false;
            }
            switch (place % 3) {
                case 0: return at(place) == (place == 0 ? 'w' : ',');
                case 1: return place == 1 ? isDigit(place, 1) : kindAt(place) != NONE;
                default: return isDigit(place, place == 2 ? 0 : 1);
            }
        }

        private boolean isCart() {
            return size > 0 && size % 3 == 0 && cartFault() == size;
        }

        private int kindAt(int place) {
            return KIND_LETTERS.indexOf((char) at(place));
        }
    }

    /** THE HILL with its BRAKES; without CELLS until one is read. */
    private static final class Hill {
        private final int[] drop = new int[MOST_CELLS];
        private final int[] sharp = new int[MOST_CELLS];
        private final int[] bump = new int[MOST_CELLS];
        private final int[] brakes = new int[MOST_CELLS];
        private int size = 0;
        private int timesRead = 0;

        private void read(Page page) {
            Arrays.fill(sharp, 0);
            Arrays.fill(bump, 0);
            Arrays.fill(brakes, 0);
            int cell = 0;
            for (int place = 0; place < page.size && cell < MOST_CELLS; place++) {
                switch (page.at(place)) {
                    case ',': cell++; break;
                    case 'b': sharp[cell] = page.digitAt(place + 1); break;
                    case 'u': bump[cell] = 1; break;
                    default: readDrop(page, place, cell); break;
                }
            }
            size = Math.min(cell + 1, MOST_CELLS);
            timesRead++;
        }

        private void readDrop(Page page, int place, int cell) {
            if (page.at(place - 1) != 'b') {
                drop[cell] = page.digitAt(place);
            }
        }

        private int bends() {
            int bends = 0;
            for (int cell = 0; cell < size; cell++) {
                if (sharp[cell] > 0) {
                    bends++;
                }
            }
            return bends;
        }

        /** The CELL of the so-manieth BEND, from 0; NONE: there are not so many. */
        private int bendAt(int bend) {
            int ahead = 0;
            for (int cell = 0; cell < size; cell++) {
                if (sharp[cell] > 0) {
                    if (ahead == bend) {
                        return cell;
                    }
                    ahead++;
                }
            }
            return NONE;
        }
    }

    private static final class Cart {
        private final int[] kind = new int[MOST_LOSSES];
        private final int[] n = new int[MOST_LOSSES];
        private int size = 0;
        private int weight = LEAST_WEIGHT;

        private void read(Page page) {
            weight = 10 * page.digitAt(1) + page.digitAt(2);
            size = 0;
            for (int place = 3; place < page.size && size < MOST_LOSSES; place += 3) {
                kind[size] = page.kindAt(place + 1);
                n[size] = page.digitAt(place + 2);
                size++;
            }
        }
    }

    private static final class Coasts {
        private final int[] cart = new int[MOST_COASTS];
        private final int[] swing = new int[MOST_COASTS];
        private final int[] cells = new int[MOST_COASTS];
        private int size = 0;

        private void put(int ofCart, int fromSwing, int soMany) {
            if (size < MOST_COASTS) {
                cart[size] = ofCart;
                swing[size] = fromSwing;
                cells[size] = soMany;
                size++;
            }
        }

        private void copy(Coasts from) {
            System.arraycopy(from.cart, 0, cart, 0, MOST_COASTS);
            System.arraycopy(from.swing, 0, swing, 0, MOST_COASTS);
            System.arraycopy(from.cells, 0, cells, 0, MOST_COASTS);
            size = from.size;
        }
    }

    private static final class Image {
        private final int[] weights = new int[MOST_CARTS];
        private final int[] brakes = new int[MOST_CELLS];
        private final Coasts coasts = new Coasts();
        private int cartCount = 0;
        private int holds = 0;
        /** How often a HILL had been read then: another one since makes it more. */
        private int hillsRead = 0;
    }

    /** The least of what is offered, and of like ones the first. */
    private static final class Best {
        private int time = NONE;
        private int way = NONE;
        private final int[] row = new int[MOST_LOSSES];

        private void clear() {
            time = NONE;
            way = NONE;
        }

        private boolean offer(int newTime, int newWay) {
            if (time != NONE && time <= newTime) {
                return false;
            }
            time = newTime;
            way = newWay;
            return true;
        }

        private void keepRow(int[] from) {
            System.arraycopy(from, 0, row, 0, MOST_LOSSES);
        }
    }

    /** One RUN: a copy of what it depends on, which a search may change, and what came of it. */
    private static final class Ride {
        private final Hill hill;
        private final int[] kind = new int[MOST_LOSSES];
        private final int[] n = new int[MOST_LOSSES];
        /** Evenings used for each LOSS; n is less by them already. */
        private final int[] spent = new int[MOST_LOSSES];
        private final int[] brakes = new int[MOST_CELLS];
        private int size = 0;
        private int weight = LEAST_WEIGHT;
        private int holds = 1;

        private int ending = DOWN;
        private int lastCell = 0;
        private int time = 0;
        private int swing = 0;
        private int braked = 0;
        private final int[] took = new int[MOST_LOSSES];
        /** SWING in the end of each CELL; NONE: it did not come there, or STANDS in it. */
        private final int[] swingIn = new int[MOST_CELLS];

        private Ride(Hill slope) {
            hill = slope;
        }

        private void mount(Cart cart, int grip) {
            System.arraycopy(cart.kind, 0, kind, 0, MOST_LOSSES);
            System.arraycopy(cart.n, 0, n, 0, MOST_LOSSES);
            System.arraycopy(hill.brakes, 0, brakes, 0, MOST_CELLS);
            Arrays.fill(spent, 0);
            size = cart.size;
            weight = cart.weight;
            holds = grip;
        }

        private void go(int from) {
            Arrays.fill(took, 0);
            Arrays.fill(swingIn, NONE);
            ending = DOWN;
            time = 0;
            swing = from;
            braked = 0;
            for (int c = 0; ending == DOWN && c < hill.size; c++) {
                lastCell = c;
                goThrough(c);
            }
        }

        private void goThrough(int c) {
            int had = swing + 20 * hill.drop[c];
            int left = had;
            for (int i = 0; i < size; i++) {
                int taken = takes(i, had, hill.drop[c], hill.sharp[c], hill.bump[c]);
                took[i] += taken;
                left -= taken;
            }
            int byBrake = left > 0 ? left * brakes[c] / 10 : 0;
            braked += byBrake;
            left -= byBrake;
            if (left <= 0) {
                swing = 0;
                ending = STANDS;
                return;
            }
            swing = left;
            swingIn[c] = left;
            time += by(1000, root(left));
            if (hill.sharp[c] > 0 && left > bearable(c)) {
                ending = LEAVES;
            }
        }

        /** What a LOSS takes; SHARP is 0 but in a BEND, bump 1 on a BUMP and 0 elsewhere. */
        private int takes(int loss, int had, int drop, int sharp, int bump) {
            int much = n[loss];
            switch (kind[loss]) {
                case RUBBED: return 2 * much;
                case TOED: return much + much * sharp;
                case AIRED: return by(had * much, 10 * weight);
                case BUMPED: return bump * (had * much / 40);
                case TURNED: return much * drop;
                default: return much;
            }
        }

        private int bearable(int cell) {
            return by(100 * holds, hill.sharp[cell]);
        }

        /** SWING stays far below 256 times 256. */
        private static int root(int of) {
            int root = 0;
            for (int bit = 128; bit > 0; bit /= 2) {
                if ((root + bit) * (root + bit) <= of) {
                    root += bit;
                }
            }
            return root;
        }

        private int timeIfDown() {
            return ending == DOWN ? time : NONE;
        }

        private int tell(int what) {
            switch (what) {
                case 0: return ending;
                case 1: return lastCell;
                case 2: return time;
                default: return swing;
            }
        }

        /** Through how many flat CELLS it goes, with one RUBBED more; most, if it goes on there. */
        private int goFlat(int from, int rubbed, int most) {
            int left = from;
            for (int cells = 0; cells < most; cells++) {
                int all = 2 * rubbed;
                for (int i = 0; i < size; i++) {
                    all += takes(i, left, 0, 0, 0);
                }
                left -= all;
                if (left <= 0) {
                    return cells;
                }
                if (all == 0) {
                    return most;
                }
            }
            return most;
        }

        /**
         * The next way to use evenings, in the order of likes: as many as may be for the last LOSS come before one
         * more for the LOSS ahead of it. Whether there was a next one.
         */
        private boolean spendNext(int evenings) {
            int used = 0;
            for (int i = 0; i < size; i++) {
                used += spent[i];
            }
            for (int i = size - 1; i >= 0; i--) {
                if (used < evenings && n[i] > 0) {
                    spent[i]++;
                    n[i]--;
                    return true;
                }
                used -= spent[i];
                n[i] += spent[i];
                spent[i] = 0;
            }
            return false;
        }
    }
}
