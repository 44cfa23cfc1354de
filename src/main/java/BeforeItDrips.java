/**
 * Scoops on a cone in the sun, and those who lick it before it drips.
 * What each call promises is told in the project's document; README.md says how to use it.
 */
public final class BeforeItDrips {
    public static final int NONE = -1;

    private static final int BAD = -2;
    private static final int OTHER = -3;
    private static final int NOTHING = -4;
    private static final int STUCK = -5;
    private static final int FULL = -6;

    private static final int MOST_SCOOPS = 3;
    private static final int MOST_LICKERS = 4;
    private static final int MOST_DROPS = 20;
    private static final int MOST_SHELVES = 8;
    private static final int MOST_TOLD = 40;
    private static final int LAST_SORT = 9;
    private static final int MOST_AMOUNT = 99;
    private static final int MOST_SECONDS = 200;
    private static final int MOST_IN_TRUTH = 60;
    private static final int MOST_HOLD = 20;
    private static final int MOST_BRIM = 20;
    private static final int MOST_LICK = 20;
    private static final int MOST_GIVE = 999;
    private static final int MOST_A = 9;
    private static final int LONGEST_PLAN = 3;

    private static final int ACT_NOTHING = 0;
    private static final int ACT_LICK_FIRST = 1;
    private static final int ACT_RIM = 4;
    private static final int ACT_TURN_ON = 5;
    private static final int ACT_TURN_BACK = 6;

    private static final int LICKER = 0;
    private static final int ROUND = 1;
    private static final int WETTEST = 2;
    private static final int LOWEST = 3;
    private static final int SLOW = 4;
    private static final int DEEP = 5;

    private final World truth = new World();
    private final World kept = new World();
    private final World aheadOfKerb = new World();
    private final Cone thought = new Cone();
    private final Mind mind = new Mind();
    private final Shelf[] shelves = new Shelf[MOST_SHELVES];
    private final Kerb tape = new Kerb();
    private final int[] refusals = new int[7];
    private boolean somethingIsKept = false;

    public BeforeItDrips() {
        for (int s = 0; s < MOST_SHELVES; s++) {
            shelves[s] = new Shelf();
        }
    }

    // ---- shelves ----

    public int row(int s, int sort, int n) {
        if (!isShelf(s) || !isWithin(sort, 0, Shelf.LAST_ROW_SORT) || !isWithin(n, 0, Shelf.MOST_ELEMENTS)) {
            return refuse(BAD);
        }
        shelves[s].holdRow(sort, n);
        return 1;
    }

    public int set(int s, int i, long v) {
        int fault = rowFault(s);
        if (fault != 0) {
            return refuse(fault);
        }
        if (!isWithin(i, 0, shelves[s].size - 1)) {
            return refuse(BAD);
        }
        shelves[s].put(i, v);
        return 1;
    }

    public int copy(int p, int q, int i, int j, int n) {
        int fault = copyFault(p, q);
        if (fault != 0) {
            return refuse(fault);
        }
        Shelf from = shelves[p];
        Shelf to = shelves[q];
        if (n < 0 || i < 0 || j < 0 || n > from.size || n > to.size || i > from.size - n || j > to.size - n) {
            return refuse(BAD);
        }
        System.arraycopy(from.elements, i, to.elements, j, n);
        return n;
    }

    public long element(int s, int i) {
        if (!isShelf(s) || !shelves[s].holdsRow() || !isWithin(i, 0, shelves[s].size - 1)) {
            return 0;
        }
        return shelves[s].elements[i];
    }

    public int holds(int s) {
        return isShelf(s) ? shelves[s].content : NONE;
    }

    public int show(int s, int licker) {
        if (!isShelf(s) || (licker != NONE && !isLicker(licker))) {
            return refuse(BAD);
        }
        if (licker == NONE) {
            shelves[s].clearAway();
        } else {
            shelves[s].holdLicker(licker);
        }
        return 1;
    }

    public int says(int s, int kind) {
        if (!isShelf(s) || !isWithin(kind, LICKER, DEEP)) {
            return refuse(BAD);
        }
        if (shelves[s].content == NONE) {
            return refuse(NOTHING);
        }
        int licker = shelves[s].lickerNumber();
        if (!isLicker(licker) || !isUnder(truth.kinds[licker], kind)) {
            return refuse(OTHER);
        }
        return kind == LICKER ? truth.as[licker] : wouldIn(truth.cone, licker);
    }

    // ---- what is set up ----

    public int sides(int n) {
        if (!isWithin(n, Cone.LEAST_SIDES, Cone.MOST_SIDES)) {
            return refuse(BAD);
        }
        if (truth.cone.scoopCount > 0) {
            return refuse(STUCK);
        }
        int ahead = truth.cone.sideCount;
        truth.cone.becomeSides(n);
        return ahead;
    }

    public int scoop(int sort, int amount) {
        if (!isWithin(sort, 0, LAST_SORT) || !isWithin(amount, 0, MOST_AMOUNT)) {
            return refuse(BAD);
        }
        if (truth.cone.scoopCount >= MOST_SCOOPS) {
            return refuse(FULL);
        }
        truth.cone.putOnTop(sort, amount);
        return truth.cone.scoopCount - 1;
    }

    public int sun(int set) {
        if (!isWithin(set, 0, truth.cone.allPlaces())) {
            return refuse(BAD);
        }
        int ahead = truth.cone.sunBits;
        truth.cone.sunBits = set;
        return ahead;
    }

    public int ask(int what, int v) {
        if (!canAsk(what, v)) {
            return refuse(BAD);
        }
        Cone cone = truth.cone;
        int ahead;
        switch (what) {
            case 0:
                ahead = cone.hold;
                cone.hold = v;
                return ahead;
            case 1:
                ahead = cone.brim;
                cone.brim = v;
                return ahead;
            case 2:
                ahead = cone.lickSize;
                cone.lickSize = v;
                return ahead;
            case 3:
                ahead = cone.give;
                cone.give = v;
                return ahead;
            default:
                ahead = cone.turn;
                cone.turn = v;
                return ahead;
        }
    }

    public int licker(int kind, int a) {
        if (!isWithin(kind, LICKER, DEEP) || !isWithin(a, 0, MOST_A)) {
            return refuse(BAD);
        }
        if (truth.lickerCount >= MOST_LICKERS) {
            return refuse(FULL);
        }
        truth.addLicker(kind, a);
        return truth.lickerCount - 1;
    }

    public int feed(int letter) {
        if (!isWithin(letter, 0, 255)) {
            return refuse(BAD);
        }
        if (tape.size >= Kerb.MOST_BYTES) {
            return refuse(FULL);
        }
        tape.append(letter);
        return tape.size;
    }

    public int wipe() {
        int ahead = tape.size;
        tape.size = 0;
        return ahead;
    }

    public int kerb() {
        aheadOfKerb.takeFrom(truth);
        int answer = tape.readInto(truth);
        tape.size = 0;
        if (answer < 0) {
            truth.takeFrom(aheadOfKerb);
            refuse(BAD);
        }
        return answer;
    }

    // ---- what is there ----

    public int scoopOf(int scoop, int what) {
        if (!isScoop(scoop) || !isWithin(what, 0, 2)) {
            return refuse(BAD);
        }
        if (what == 0) {
            return truth.cone.sorts[scoop];
        }
        return what == 1 ? truth.cone.amounts[scoop] : truth.cone.allWetOf(scoop);
    }

    public int wet(int scoop, int side) {
        if ((scoop != NONE && !isScoop(scoop)) || !isSide(side)) {
            return refuse(BAD);
        }
        return scoop == NONE ? truth.cone.rims[side] : truth.cone.wetAt(scoop, side);
    }

    public int lickerOf(int licker, int what) {
        if (!isLicker(licker) || !isWithin(what, 0, 1)) {
            return refuse(BAD);
        }
        return what == 0 ? truth.kinds[licker] : truth.as[licker];
    }

    public int sunny(int side) {
        if (!isSide(side)) {
            return refuse(BAD);
        }
        return truth.cone.isSunny(side) ? 1 : 0;
    }

    // ---- in thought ----

    public int without(int n) {
        if (!isSpan(n)) {
            return refuse(BAD);
        }
        thought.takeFrom(truth.cone);
        return lostIdling(n);
    }

    public int spare() {
        thought.takeFrom(truth.cone);
        for (int second = 0; second < MOST_SECONDS; second++) {
            thought.pass(ACT_NOTHING);
            if (thought.lost > truth.cone.lost) {
                return second;
            }
        }
        return MOST_SECONDS;
    }

    public int run(int licker, int n, int what) {
        if (!isLicker(licker) || !isSpan(n) || !isWithin(what, 0, 3)) {
            return refuse(BAD);
        }
        thinkRun(licker, n);
        return thoughtResult(what);
    }

    public int would(int licker) {
        if (!isLicker(licker)) {
            return refuse(BAD);
        }
        return wouldIn(truth.cone, licker);
    }

    public int plan(int k, int i) {
        if (!isWithin(k, 1, LONGEST_PLAN) || !isWithin(i, NONE, k - 1)) {
            return refuse(BAD);
        }
        mind.findPlan(truth.cone, k);
        return i == NONE ? mind.foundLost - truth.cone.lost : mind.found[i];
    }

    public int best(int n) {
        if (!isSpan(n)) {
            return refuse(BAD);
        }
        if (truth.lickerCount == 0) {
            return refuse(STUCK);
        }
        int best = 0;
        int leastLost = 0;
        int mostEaten = 0;
        for (int licker = 0; licker < truth.lickerCount; licker++) {
            thinkRun(licker, n);
            boolean better = thought.lost < leastLost || (thought.lost == leastLost && thought.eaten > mostEaten);
            if (licker == 0 || better) {
                best = licker;
                leastLost = thought.lost;
                mostEaten = thought.eaten;
            }
        }
        return best;
    }

    public int until(int licker) {
        if (!isLicker(licker)) {
            return refuse(BAD);
        }
        thought.takeFrom(truth.cone);
        for (int second = 0; second < MOST_SECONDS; second++) {
            if (thought.left() == 0) {
                return second;
            }
            thought.pass(wouldIn(thought, licker));
        }
        return thought.left() == 0 ? MOST_SECONDS : NONE;
    }

    public int spareBy(int licker) {
        if (!isLicker(licker)) {
            return refuse(BAD);
        }
        thought.takeFrom(truth.cone);
        for (int second = 0; second < MOST_SECONDS; second++) {
            thought.pass(wouldIn(thought, licker));
            if (thought.lost > truth.cone.lost) {
                return second;
            }
        }
        return MOST_SECONDS;
    }

    public int both(int licker, int other, int n) {
        if (!isLicker(licker) || !isLicker(other) || !isSpan(n)) {
            return refuse(BAD);
        }
        thought.takeFrom(truth.cone);
        for (int second = 0; second < n; second++) {
            thought.pass(wouldIn(thought, second % 2 == 0 ? licker : other));
        }
        return thought.lost - truth.cone.lost;
    }

    public int holdFor(int n) {
        if (!isSpan(n)) {
            return refuse(BAD);
        }
        for (int hold = 0; hold <= MOST_HOLD; hold++) {
            thought.takeFrom(truth.cone);
            thought.hold = hold;
            if (lostIdling(n) == 0) {
                return hold;
            }
        }
        return NONE;
    }

    public int largest(int sort, int n) {
        if (!isWithin(sort, 0, LAST_SORT) || !isSpan(n)) {
            return refuse(BAD);
        }
        if (truth.cone.scoopCount >= MOST_SCOOPS) {
            return refuse(FULL);
        }
        thought.takeFrom(truth.cone);
        int allowed = lostIdling(n);
        int fits = 0;
        // A greater scoop on top never lets less run down, so the amounts that fit are 0 up to one number: halve the way.
        for (int step = 64; step > 0; step /= 2) {
            if (fits + step <= MOST_AMOUNT && lostUnder(sort, fits + step, n) <= allowed) {
                fits += step;
            }
        }
        return fits;
    }

    public int order(int n, int i) {
        if (!isSpan(n) || i < NONE) {
            return refuse(BAD);
        }
        if (i >= truth.cone.scoopCount) {
            return refuse(STUCK);
        }
        int bestOrder = 0;
        int leastLost = 0;
        for (int order = 0; order < Cone.ORDERS; order++) {
            if (!truth.cone.hasOrder(order)) {
                continue;
            }
            thought.takeInOrder(truth.cone, order);
            int lost = lostIdling(n);
            if (order == 0 || lost < leastLost) {
                bestOrder = order;
                leastLost = lost;
            }
        }
        return i == NONE ? leastLost : Cone.scoopInOrder(bestOrder, i);
    }

    public int shade(int n) {
        if (!isSpan(n)) {
            return refuse(BAD);
        }
        int bestTurn = 0;
        int leastLost = 0;
        for (int turn = 0; turn < truth.cone.sideCount; turn++) {
            thought.takeFrom(truth.cone);
            thought.turn = turn;
            int lost = lostIdling(n);
            if (turn == 0 || lost < leastLost) {
                bestTurn = turn;
                leastLost = lost;
            }
        }
        return bestTurn;
    }

    public int gives() {
        thought.takeFrom(truth.cone);
        for (int second = 0; second < MOST_SECONDS; second++) {
            if (thought.soak >= thought.give) {
                return second;
            }
            thought.pass(ACT_NOTHING);
        }
        return thought.soak >= thought.give ? MOST_SECONDS : NONE;
    }

    public int wettest() {
        return truth.cone.wettestSide();
    }

    public int largestScoop() {
        if (truth.cone.scoopCount == 0) {
            return refuse(STUCK);
        }
        int largest = 0;
        for (int scoop = 1; scoop < truth.cone.scoopCount; scoop++) {
            if (truth.cone.amounts[scoop] > truth.cone.amounts[largest]) {
                largest = scoop;
            }
        }
        return largest;
    }

    public int melted() {
        thought.takeFrom(truth.cone);
        for (int second = 0; second < MOST_SECONDS; second++) {
            if (thought.hasMeltedScoop()) {
                return second;
            }
            thought.pass(ACT_NOTHING);
        }
        return thought.hasMeltedScoop() ? MOST_SECONDS : NONE;
    }

    public int judge(int s, int n) {
        int fault = toldFault(s, n, 0, MOST_TOLD);
        return fault != 0 ? refuse(fault) : wrongTold(s, n);
    }

    public int behind(int s, int n, int what) {
        int fault = isWithin(what, 0, 3) ? toldFault(s, n, 0, MOST_TOLD) : BAD;
        if (fault != 0) {
            return refuse(fault);
        }
        if (wrongTold(s, n) != NONE) {
            return refuse(STUCK);
        }
        thought.takeFrom(truth.cone);
        for (int i = 0; i < n; i++) {
            thought.pass((int) shelves[s].elements[i]);
        }
        return thoughtResult(what);
    }

    // ---- in truth ----

    public int done(int s, int n) {
        int fault = toldFault(s, n, 0, MOST_TOLD);
        if (fault != 0) {
            return refuse(fault);
        }
        if (wrongTold(s, n) != NONE) {
            return refuse(STUCK);
        }
        int lostAhead = truth.cone.lost;
        for (int i = 0; i < n; i++) {
            truth.actInTruth((int) shelves[s].elements[i]);
        }
        return truth.cone.lost - lostAhead;
    }

    public int drop(int i) {
        if (i < NONE) {
            return refuse(BAD);
        }
        if (i >= truth.dropCount) {
            return refuse(STUCK);
        }
        return i == NONE ? truth.dropCount : truth.drops[i];
    }

    public int went(int s, int n) {
        int fault = toldFault(s, n, 2, MOST_DROPS);
        if (fault != 0) {
            return refuse(fault);
        }
        if (n > truth.dropCount) {
            return refuse(STUCK);
        }
        int speeds = 0;
        for (int speed = 1; speed <= 9; speed++) {
            if (wentAt(s, n, speed)) {
                speeds |= 1 << speed;
            }
        }
        return speeds;
    }

    public int act(int act) {
        if (!isWithin(act, ACT_NOTHING, ACT_TURN_BACK)) {
            return refuse(BAD);
        }
        if (!truth.cone.canDo(act)) {
            return refuse(STUCK);
        }
        int lostAhead = truth.cone.lost;
        truth.actInTruth(act);
        return truth.cone.lost - lostAhead;
    }

    public int licks(int licker, int n) {
        if (!isLicker(licker) || !isWithin(n, 1, MOST_IN_TRUTH)) {
            return refuse(BAD);
        }
        int eatenAhead = truth.cone.eaten;
        lickInTruth(licker, n);
        return truth.cone.eaten - eatenAhead;
    }

    public int swap(int scoop, int other) {
        if (!isScoop(scoop) || !isScoop(other)) {
            return refuse(BAD);
        }
        if (scoop == other) {
            return 0;
        }
        truth.cone.changePlaces(scoop, other);
        return 1;
    }

    public int day(int licker, int k) {
        if (!isLicker(licker) || !isWithin(k, 1, MOST_IN_TRUTH)) {
            return refuse(BAD);
        }
        truth.cone.sunBits = truth.drawByte() & truth.cone.allPlaces();
        int lostAhead = truth.cone.lost;
        lickInTruth(licker, k);
        return truth.cone.lost - lostAhead;
    }

    public int anew() {
        int ahead = truth.cone.left();
        truth.cone.becomeEmpty();
        truth.dropCount = 0;
        return ahead;
    }

    public int seed(int v) {
        int ahead = truth.seed;
        truth.seed = v;
        return ahead;
    }

    public int image() {
        kept.takeFrom(truth);
        somethingIsKept = true;
        return 1;
    }

    public int back() {
        if (!somethingIsKept) {
            return refuse(STUCK);
        }
        truth.takeFrom(kept);
        for (int s = 0; s < MOST_SHELVES; s++) {
            if (shelves[s].lickerNumber() >= truth.lickerCount) {
                shelves[s].clearAway();
            }
        }
        return 1;
    }

    public int status(int what) {
        switch (what) {
            case 0: return truth.cone.sideCount;
            case 1: return truth.cone.scoopCount;
            case 2: return truth.lickerCount;
            case 3: return truth.cone.seconds;
            case 4: return truth.cone.lost;
            case 5: return truth.cone.eaten;
            case 6: return truth.cone.left();
            case 7: return truth.cone.soak;
            case 8: return truth.cone.turn;
            case 9: return truth.cone.sunBits;
            case 10: return tape.size;
            case 11: return truth.seed;
            case 12: return refusals[-BAD];
            case 13: return refusals[-OTHER];
            case 14: return refusals[-NOTHING];
            case 15: return refusals[-STUCK];
            case 16: return refusals[-FULL];
            case 17: return shelvesInUse();
            case 18: return truth.cone.hold;
            case 19: return truth.cone.brim;
            case 20: return truth.cone.lickSize;
            case 21: return truth.cone.give;
            default: return NONE;
        }
    }

    // ---- what may be, and what is refused ----

    private int refuse(int answer) {
        if (isWithin(answer, FULL, BAD)) {
            refusals[-answer]++;
        }
        return answer;
    }

    private static boolean isWithin(int v, int least, int most) {
        return v >= least && v <= most;
    }

    private static boolean isShelf(int s) {
        return isWithin(s, 0, MOST_SHELVES - 1);
    }

    private static boolean isSpan(int n) {
        return isWithin(n, 0, MOST_SECONDS);
    }

    private boolean isScoop(int scoop) {
        return isWithin(scoop, 0, truth.cone.scoopCount - 1);
    }

    private boolean isSide(int side) {
        return isWithin(side, 0, truth.cone.sideCount - 1);
    }

    private boolean isLicker(int licker) {
        return isWithin(licker, 0, truth.lickerCount - 1);
    }

    private boolean canAsk(int what, int v) {
        switch (what) {
            case 0: return isWithin(v, 0, MOST_HOLD);
            case 1: return isWithin(v, 0, MOST_BRIM);
            case 2: return isWithin(v, 1, MOST_LICK);
            case 3: return isWithin(v, 1, MOST_GIVE);
            case 4: return isSide(v);
            default: return false;
        }
    }

    private static boolean isUnder(int kind, int above) {
        if (above == LICKER || kind == above) {
            return true;
        }
        return above == WETTEST ? kind == LOWEST || kind == DEEP : above == ROUND && kind == SLOW;
    }

    /** 0 if the shelf holds a row. */
    private int rowFault(int s) {
        if (!isShelf(s)) {
            return BAD;
        }
        if (shelves[s].content == NONE) {
            return NOTHING;
        }
        return shelves[s].holdsRow() ? 0 : OTHER;
    }

    /** 0 if both shelves hold rows of one sort. */
    private int copyFault(int p, int q) {
        int faultP = rowFault(p);
        int faultQ = rowFault(q);
        if (faultP == BAD || faultQ == BAD) {
            return BAD;
        }
        if (faultP == OTHER || faultQ == OTHER) {
            return OTHER;
        }
        if (faultP == NOTHING || faultQ == NOTHING) {
            return NOTHING;
        }
        return shelves[p].content == shelves[q].content ? 0 : OTHER;
    }

    /** 0 if the shelf holds a row with n elements at least, n from least to most. */
    private int toldFault(int s, int n, int least, int most) {
        if (!isWithin(n, least, most)) {
            return BAD;
        }
        int fault = rowFault(s);
        if (fault != 0) {
            return fault;
        }
        return n > shelves[s].size ? BAD : 0;
    }

    /** The first of the told acts that can't be; NONE. The shelf is known to hold n elements. */
    private int wrongTold(int s, int n) {
        for (int i = 0; i < n; i++) {
            long told = shelves[s].elements[i];
            if (told < ACT_NOTHING || told > ACT_TURN_BACK || !truth.cone.canDo((int) told)) {
                return i;
            }
        }
        return NONE;
    }

    private boolean wentAt(int s, int n, int speed) {
        long[] yards = shelves[s].elements;
        for (int i = 1; i < n; i++) {
            long meanwhile = truth.drops[i] - truth.drops[i - 1];
            if (yards[i] - yards[i - 1] != speed * meanwhile) {
                return false;
            }
        }
        return true;
    }

    private int shelvesInUse() {
        int inUse = 0;
        for (int s = 0; s < MOST_SHELVES; s++) {
            if (shelves[s].content != NONE) {
                inUse++;
            }
        }
        return inUse;
    }

    // ---- thinking and doing ----

    /** The act that a licker, known to be there, would do on a cone as it stands. */
    private int wouldIn(Cone cone, int licker) {
        return mind.choose(cone, truth.kinds[licker], truth.as[licker]);
    }

    private int lostIdling(int n) {
        int lostAhead = thought.lost;
        for (int second = 0; second < n; second++) {
            thought.pass(ACT_NOTHING);
        }
        return thought.lost - lostAhead;
    }

    private int lostUnder(int sort, int amount, int n) {
        thought.takeFrom(truth.cone);
        thought.putOnTop(sort, amount);
        return lostIdling(n);
    }

    private void thinkRun(int licker, int n) {
        thought.takeFrom(truth.cone);
        // The mind is asked without wouldIn between, here and in lickInTruth, so that no calls go more than eight deep.
        for (int second = 0; second < n; second++) {
            thought.pass(mind.choose(thought, truth.kinds[licker], truth.as[licker]));
        }
    }

    private int thoughtResult(int what) {
        switch (what) {
            case 0: return thought.lost - truth.cone.lost;
            case 1: return thought.eaten - truth.cone.eaten;
            case 2: return thought.left();
            default: return thought.turn;
        }
    }

    private void lickInTruth(int licker, int n) {
        for (int second = 0; second < n; second++) {
            truth.actInTruth(mind.choose(truth.cone, truth.kinds[licker], truth.as[licker]));
        }
    }

    /** The cone with all that a second changes. */
    private static final class Cone {
        static final int LEAST_SIDES = 3;
        static final int MOST_SIDES = 8;
        static final int ORDERS = 6;
        private static final int[] ORDER_ROWS = {0, 1, 2, 0, 2, 1, 1, 0, 2, 1, 2, 0, 2, 0, 1, 2, 1, 0};

        int sideCount = 6;
        int turn = 0;
        int sunBits = 0;
        int hold = 5;
        int brim = 4;
        int lickSize = 6;
        int give = 200;
        int seconds = 0;
        int lost = 0;
        int eaten = 0;
        int soak = 0;
        int scoopCount = 0;
        final int[] sorts = new int[MOST_SCOOPS];
        final int[] amounts = new int[MOST_SCOOPS];
        /** Wet of all scoops, MOST_SIDES numbers a scoop. */
        final int[] wets = new int[MOST_SCOOPS * MOST_SIDES];
        final int[] rims = new int[MOST_SIDES];

        void takeFrom(Cone other) {
            sideCount = other.sideCount;
            turn = other.turn;
            sunBits = other.sunBits;
            hold = other.hold;
            brim = other.brim;
            lickSize = other.lickSize;
            give = other.give;
            seconds = other.seconds;
            lost = other.lost;
            eaten = other.eaten;
            soak = other.soak;
            scoopCount = other.scoopCount;
            System.arraycopy(other.sorts, 0, sorts, 0, MOST_SCOOPS);
            System.arraycopy(other.amounts, 0, amounts, 0, MOST_SCOOPS);
            System.arraycopy(other.wets, 0, wets, 0, MOST_SCOOPS * MOST_SIDES);
            System.arraycopy(other.rims, 0, rims, 0, MOST_SIDES);
        }

        /** An order of three is one of fewer scoops, too, if it leaves the places above them alone. */
        boolean hasOrder(int order) {
            for (int i = scoopCount; i < MOST_SCOOPS; i++) {
                if (scoopInOrder(order, i) != i) {
                    return false;
                }
            }
            return true;
        }

        static int scoopInOrder(int order, int i) {
            int at = order * MOST_SCOOPS + i;
            return at >= 0 && at < ORDER_ROWS.length ? ORDER_ROWS[at] : 0;
        }

        void takeInOrder(Cone other, int order) {
            takeFrom(other);
            for (int i = 0; i < scoopCount; i++) {
                int scoop = scoopInOrder(order, i);
                sorts[i] = other.sorts[scoop];
                amounts[i] = other.amounts[scoop];
                System.arraycopy(other.wets, scoop * MOST_SIDES, wets, i * MOST_SIDES, MOST_SIDES);
            }
        }

        void changePlaces(int scoop, int other) {
            int sort = sorts[scoop];
            sorts[scoop] = sorts[other];
            sorts[other] = sort;
            int amount = amounts[scoop];
            amounts[scoop] = amounts[other];
            amounts[other] = amount;
            for (int side = 0; side < MOST_SIDES; side++) {
                int wet = wetAt(scoop, side);
                wets[scoop * MOST_SIDES + side] = wetAt(other, side);
                wets[other * MOST_SIDES + side] = wet;
            }
        }

        void becomeSides(int n) {
            sideCount = n;
            turn = 0;
            sunBits &= allPlaces();
        }

        void becomeEmpty() {
            scoopCount = 0;
            soak = 0;
            for (int side = 0; side < MOST_SIDES; side++) {
                rims[side] = 0;
            }
        }

        /** There is room for it: the callers have looked. */
        void putOnTop(int sort, int amount) {
            if (scoopCount >= MOST_SCOOPS) {
                return;
            }
            sorts[scoopCount] = sort;
            amounts[scoopCount] = amount;
            for (int side = 0; side < MOST_SIDES; side++) {
                wets[scoopCount * MOST_SIDES + side] = 0;
            }
            scoopCount++;
        }

        int allPlaces() {
            return (1 << sideCount) - 1;
        }

        int wetAt(int scoop, int side) {
            return wets[scoop * MOST_SIDES + side];
        }

        boolean isSunny(int side) {
            int place = side - turn;
            if (place < 0) {
                place += sideCount;
            }
            return (sunBits >> place & 1) != 0;
        }

        int allWetOf(int scoop) {
            int all = 0;
            for (int side = 0; side < sideCount; side++) {
                all += wetAt(scoop, side);
            }
            return all;
        }

        int left() {
            int all = 0;
            for (int scoop = 0; scoop < scoopCount; scoop++) {
                all += amounts[scoop] + allWetOf(scoop);
            }
            for (int side = 0; side < sideCount; side++) {
                all += rims[side];
            }
            return all;
        }

        boolean hasMeltedScoop() {
            for (int scoop = 0; scoop < scoopCount; scoop++) {
                if (amounts[scoop] == 0) {
                    return true;
                }
            }
            return false;
        }

        int wettestSide() {
            int wettest = 0;
            int most = 0;
            for (int side = 0; side < sideCount; side++) {
                int all = rims[side];
                for (int scoop = 0; scoop < scoopCount; scoop++) {
                    all += wetAt(scoop, side);
                }
                if (all > most) {
                    wettest = side;
                    most = all;
                }
            }
            return wettest;
        }

        int lowestWetSide() {
            int lowest = 0;
            for (int side = 1; side < sideCount; side++) {
                if (isWetLower(side, lowest)) {
                    lowest = side;
                }
            }
            return lowest;
        }

        private boolean isWetLower(int side, int other) {
            if (rims[side] != rims[other]) {
                return rims[side] > rims[other];
            }
            for (int scoop = 0; scoop < scoopCount; scoop++) {
                if (wetAt(scoop, side) != wetAt(scoop, other)) {
                    return wetAt(scoop, side) > wetAt(scoop, other);
                }
            }
            return false;
        }

        boolean canDo(int act) {
            return act < ACT_LICK_FIRST || act >= ACT_RIM || act - ACT_LICK_FIRST < scoopCount;
        }

        /** Whether an act eats nothing and turns nothing, so that it is as good as act 0. */
        boolean isIdle(int act) {
            if (act < ACT_LICK_FIRST || act > ACT_RIM) {
                return act == ACT_NOTHING;
            }
            if (act == ACT_RIM) {
                return rims[turn] == 0;
            }
            return !canDo(act) || wetAt(act - ACT_LICK_FIRST, turn) == 0;
        }

        void pass(int act) {
            if (act == ACT_TURN_ON) {
                turn = turn + 1 < sideCount ? turn + 1 : 0;
            } else if (act == ACT_TURN_BACK) {
                turn = turn > 0 ? turn - 1 : sideCount - 1;
            } else if (!isIdle(act)) {
                eat(act);
            }
            melt();
            runDown();
            fallOff();
            seconds++;
        }

        private void eat(int act) {
            if (act == ACT_RIM) {
                int some = Math.min(lickSize, rims[turn]);
                rims[turn] -= some;
                eaten += some;
            } else {
                int at = (act - ACT_LICK_FIRST) * MOST_SIDES + turn;
                int some = Math.min(lickSize, wets[at]);
                wets[at] -= some;
                eaten += some;
            }
        }

        private void melt() {
            for (int scoop = 0; scoop < scoopCount; scoop++) {
                int inShade = sorts[scoop] / 2;
                for (int side = 0; side < sideCount && amounts[scoop] > 0; side++) {
                    int melts = Math.min(isSunny(side) ? sorts[scoop] : inShade, amounts[scoop]);
                    amounts[scoop] -= melts;
                    wets[scoop * MOST_SIDES + side] += melts;
                }
            }
        }

        private void runDown() {
            for (int scoop = scoopCount - 1; scoop >= 0; scoop--) {
                for (int side = 0; side < sideCount; side++) {
                    int at = scoop * MOST_SIDES + side;
                    int over = wets[at] - hold;
                    if (over <= 0) {
                        continue;
                    }
                    wets[at] = hold;
                    if (scoop == 0) {
                        rims[side] += over;
                    } else {
                        wets[at - MOST_SIDES] += over;
                    }
                }
            }
        }

        private void fallOff() {
            for (int side = 0; side < sideCount; side++) {
                if (rims[side] > brim) {
                    lost += rims[side] - brim;
                    rims[side] = brim;
                }
                if (rims[side] > 0) {
                    soak++;
                }
            }
        }
    }

    /** All that an image keeps. */
    private static final class World {
        final Cone cone = new Cone();
        final int[] kinds = new int[MOST_LICKERS];
        final int[] as = new int[MOST_LICKERS];
        int lickerCount = 0;
        final int[] drops = new int[MOST_DROPS];
        int dropCount = 0;
        int seed = 1;

        void takeFrom(World other) {
            cone.takeFrom(other.cone);
            System.arraycopy(other.kinds, 0, kinds, 0, MOST_LICKERS);
            System.arraycopy(other.as, 0, as, 0, MOST_LICKERS);
            lickerCount = other.lickerCount;
            System.arraycopy(other.drops, 0, drops, 0, MOST_DROPS);
            dropCount = other.dropCount;
            seed = other.seed;
        }

        /** There is room for it: the callers have looked. */
        void addLicker(int kind, int a) {
            if (lickerCount < MOST_LICKERS) {
                kinds[lickerCount] = kind;
                as[lickerCount] = a;
                lickerCount++;
            }
        }

        void actInTruth(int act) {
            int lostAhead = cone.lost;
            cone.pass(act);
            if (cone.lost > lostAhead && dropCount < MOST_DROPS) {
                drops[dropCount] = cone.seconds;
                dropCount++;
            }
        }

        /** A draw below 256. */
        int drawByte() {
            seed = seed * 1103515245 + 12345;
            return (seed >>> 16) % 256;
        }
    }

    /** How lickers choose their acts. */
    private static final class Mind {
        /** More than can ever be lost. */
        private static final int UNFOUND = 2147483647;

        private final Cone[] levels = new Cone[LONGEST_PLAN + 1];
        private final int[] tried = new int[LONGEST_PLAN];
        final int[] found = new int[LONGEST_PLAN];
        int foundLost = 0;
        private int foundEaten = 0;

        Mind() {
            for (int depth = 0; depth <= LONGEST_PLAN; depth++) {
                levels[depth] = new Cone();
            }
        }

        int choose(Cone cone, int kind, int a) {
            if (cone.scoopCount == 0) {
                return ACT_NOTHING;
            }
            switch (kind) {
                case ROUND:
                    return goRound(cone);
                case WETTEST:
                    return cone.wettestSide() == cone.turn ? lickWettest(cone) : turnTo(cone, cone.wettestSide());
                case LOWEST:
                    return cone.lowestWetSide() == cone.turn ? lickLowest(cone) : turnTo(cone, cone.lowestWetSide());
                case SLOW:
                    return cone.seconds % (a + 2) != 0 ? ACT_NOTHING : goRound(cone);
                case DEEP:
                    findPlan(cone, a % LONGEST_PLAN + 1);
                    return found[0];
                default:
                    return ACT_LICK_FIRST;
            }
        }

        private static int goRound(Cone cone) {
            int lick = lickLowest(cone);
            return lick == ACT_NOTHING ? ACT_TURN_ON : lick;
        }

        /** Rim, then scoops from below: the first that is wet in front; act 0 if nothing is. */
        private static int lickLowest(Cone cone) {
            if (cone.rims[cone.turn] != 0) {
                return ACT_RIM;
            }
            for (int scoop = 0; scoop < cone.scoopCount; scoop++) {
                if (cone.wetAt(scoop, cone.turn) != 0) {
                    return ACT_LICK_FIRST + scoop;
                }
            }
            return ACT_NOTHING;
        }

        private static int lickWettest(Cone cone) {
            int act = cone.rims[cone.turn] > 0 ? ACT_RIM : ACT_NOTHING;
            int most = cone.rims[cone.turn];
            for (int scoop = 0; scoop < cone.scoopCount; scoop++) {
                if (cone.wetAt(scoop, cone.turn) > most) {
                    act = ACT_LICK_FIRST + scoop;
                    most = cone.wetAt(scoop, cone.turn);
                }
            }
            return act;
        }

        private static int turnTo(Cone cone, int side) {
            int on = side - cone.turn;
            if (on < 0) {
                on += cone.sideCount;
            }
            return on <= cone.sideCount - on ? ACT_TURN_ON : ACT_TURN_BACK;
        }

        /** Leaves the plan of k seconds in found, and what is lost behind it (all told) in foundLost. */
        void findPlan(Cone from, int k) {
            levels[0].takeFrom(from);
            foundLost = UNFOUND;
            foundEaten = 0;
            deepen(this, 0, k);
        }

        private static void deepen(Mind mind, int depth, int k) {
            Cone here = mind.levels[depth];
            // What is lost never gets less: no row from here on can be the plan any more.
            if (here.lost > mind.foundLost) {
                return;
            }
            if (depth >= k || depth >= LONGEST_PLAN) {
                mind.weigh(here);
                return;
            }
            Cone next = mind.levels[depth + 1];
            for (int act = ACT_NOTHING; act <= ACT_TURN_BACK; act++) {
                // An idle lick comes to the same as act 0, which is tried first and so would win.
                if (act != ACT_NOTHING && here.isIdle(act)) {
                    continue;
                }
                mind.tried[depth] = act;
                next.takeFrom(here);
                next.pass(act);
                deepen(mind, depth + 1, k);
            }
        }

        private void weigh(Cone end) {
            if (end.lost < foundLost || end.eaten > foundEaten) {
                foundLost = end.lost;
                foundEaten = end.eaten;
                System.arraycopy(tried, 0, found, 0, LONGEST_PLAN);
            }
        }
    }

    /** Nothing, a row, or a licker's number. */
    private static final class Shelf {
        static final int LAST_ROW_SORT = 4;
        static final int MOST_ELEMENTS = 40;
        private static final int FIRST_LICKER = 10;

        /** NONE; a row's sort; FIRST_LICKER and a licker's number. */
        int content = NONE;
        int size = 0;
        final long[] elements = new long[MOST_ELEMENTS];

        void clearAway() {
            content = NONE;
            size = 0;
        }

        void holdRow(int sort, int n) {
            content = sort;
            size = n;
            for (int i = 0; i < MOST_ELEMENTS; i++) {
                elements[i] = 0;
            }
        }

        void holdLicker(int licker) {
            content = FIRST_LICKER + licker;
            size = 0;
        }

        boolean holdsRow() {
            return content >= 0 && content <= LAST_ROW_SORT;
        }

        /** The licker's number, NONE if there is none. */
        int lickerNumber() {
            return content >= FIRST_LICKER ? content - FIRST_LICKER : NONE;
        }

        void put(int i, long v) {
            switch (content) {
                case 0:
                    elements[i] = (byte) v;
                    break;
                case 1:
                    elements[i] = (short) v;
                    break;
                case 2:
                    elements[i] = (int) v;
                    break;
                case 3:
                    elements[i] = v;
                    break;
                default:
                    elements[i] = v != 0 ? 1 : 0;
                    break;
            }
        }
    }

    /** The tape, and how a kerb is read from it, token by token. */
    private static final class Kerb {
        static final int MOST_BYTES = 250;
        private static final int MOST_DIGITS = 2;
        private static final int FAULT_BASE = -20;

        private static final int END = 0;
        private static final int WORD = 1;
        private static final int NUMBER = 2;
        private static final int SIGN = 3;
        private static final int NO_TOKEN = 4;

        private final int[] bytes = new int[MOST_BYTES];
        int size = 0;
        /** The token at hand: what it is, its first byte, the byte behind it, and a number's value. */
        private int token = END;
        private int start = 0;
        private int end = 0;
        private int value = 0;

        void append(int letter) {
            if (size < MOST_BYTES) {
                bytes[size] = letter;
                size++;
            }
        }

        /** How many statements there were, or -20 less the fault; then the world is half changed. */
        int readInto(World world) {
            end = 0;
            advance();
            for (int statements = 1; statements <= MOST_BYTES; statements++) {
                if (!readStatement(world)) {
                    return FAULT_BASE - start;
                }
                if (token == END) {
                    return statements;
                }
                if (token != SIGN) {
                    return FAULT_BASE - start;
                }
                advance();
            }
            return FAULT_BASE - start;
        }

        /** False if the token at hand can't stand there; else the one behind the statement is at hand. */
        private boolean readStatement(World world) {
            if (token != WORD) {
                return false;
            }
            if (isWord("sides")) {
                return readSides(world.cone);
            }
            if (isWord("scoop")) {
                return readScoop(world.cone);
            }
            if (isWord("sun")) {
                return readSun(world.cone);
            }
            if (isWord("hold")) {
                return readHold(world.cone);
            }
            if (isWord("brim")) {
                return readBrim(world.cone);
            }
            if (isWord("licker")) {
                return readLicker(world);
            }
            return isWord("lick") && readLick(world);
        }

        private boolean readSides(Cone cone) {
            if (cone.scoopCount > 0) {
                return false;
            }
            advance();
            if (!isNumber(Cone.LEAST_SIDES, Cone.MOST_SIDES)) {
                return false;
            }
            cone.becomeSides(value);
            advance();
            return true;
        }

        private boolean readScoop(Cone cone) {
            if (cone.scoopCount >= MOST_SCOOPS) {
                return false;
            }
            advance();
            if (!isNumber(0, LAST_SORT)) {
                return false;
            }
            int sort = value;
            advance();
            if (!isNumber(0, MOST_AMOUNT)) {
                return false;
            }
            cone.putOnTop(sort, value);
            advance();
            return true;
        }

        private boolean readSun(Cone cone) {
            advance();
            int places = 0;
            for (int read = 0; read <= Cone.MOST_SIDES; read++) {
                if (token != NUMBER && read > 0) {
                    break;
                }
                if (!isNumber(0, cone.sideCount - 1) || (places >> value & 1) != 0) {
                    return false;
                }
                places |= 1 << value;
                advance();
            }
            cone.sunBits = places;
            return true;
        }

        private boolean readHold(Cone cone) {
            advance();
            if (!isNumber(0, MOST_HOLD)) {
                return false;
            }
            cone.hold = value;
            advance();
            return true;
        }

        private boolean readBrim(Cone cone) {
            advance();
            if (!isNumber(0, MOST_BRIM)) {
                return false;
            }
            cone.brim = value;
            advance();
            return true;
        }

        private boolean readLicker(World world) {
            if (world.lickerCount >= MOST_LICKERS) {
                return false;
            }
            advance();
            if (!isNumber(LICKER, DEEP)) {
                return false;
            }
            int kind = value;
            advance();
            if (!isNumber(0, MOST_A)) {
                return false;
            }
            world.addLicker(kind, value);
            advance();
            return true;
        }

        private boolean readLick(World world) {
            advance();
            if (!isNumber(ACT_NOTHING, ACT_TURN_BACK) || !world.cone.canDo(value)) {
                return false;
            }
            world.actInTruth(value);
            advance();
            return true;
        }

        private boolean isNumber(int least, int most) {
            return token == NUMBER && end - start <= MOST_DIGITS && value >= least && value <= most;
        }

        private boolean isWord(String word) {
            if (word.length() != end - start) {
                return false;
            }
            for (int i = 0; i < word.length(); i++) {
                if (byteAt(start + i) != word.charAt(i)) {
                    return false;
                }
            }
            return true;
        }

        /** Puts the next token at hand; behind the last one that is END, at the tape's size. */
        private void advance() {
            start = end;
            while (start < size && byteAt(start) == ' ') {
                start++;
            }
            end = start;
            if (start >= size) {
                token = END;
            } else if (isLetter(byteAt(start))) {
                token = WORD;
                while (end < size && isLetter(byteAt(end))) {
                    end++;
                }
            } else if (isDigit(byteAt(start))) {
                token = NUMBER;
                readNumber();
            } else {
                token = byteAt(start) == ';' ? SIGN : NO_TOKEN;
                end++;
            }
        }

        private void readNumber() {
            value = 0;
            while (end < size && isDigit(byteAt(end))) {
                // Longer numbers are refused by their length alone: their value is not wanted.
                if (end - start < MOST_DIGITS) {
                    value = value * 10 + byteAt(end) - '0';
                }
                end++;
            }
        }

        private int byteAt(int place) {
            return place >= 0 && place < size && place < MOST_BYTES ? bytes[place] : 0;
        }

        private static boolean isLetter(int letter) {
            return letter >= 'a' && letter <= 'z';
        }

        private static boolean isDigit(int letter) {
            return letter >= '0' && letter <= '9';
        }
    }
}
