/** People in pairs who hold purses between them, and chains of promises over several pairs. */
public final class PromiseChains {
    public static final int NONE = -1, BAD = -2, NO = -3, FULL = -4;

    private static final int LEAST_PEOPLE = 2, MOST_PEOPLE = 7, MOST_PAIRS = 12;
    private static final int MOST_PROMISES = 40, MOST_STATES = 64;
    // A way meets nobody twice, so it has one pair less than there may be people.
    private static final int MOST_HOPS = MOST_PEOPLE - 1;
    private static final int MOST_LOCKS = MOST_PROMISES * MOST_HOPS;
    private static final int LEAST_RING = 3;
    private static final int MOST_SIDE = 100000, MOST_PAID = 100000, MOST_TRIED = 200000;
    private static final int MOST_FEE = 100, THOUSANDTHS = 1000;
    private static final int MOST_GAP = 50, MOST_LOOK = 50, MOST_TICKS = 60;
    private static final int FIRST_GAP = 3, FIRST_LOOK = 5;

    private static final int OPEN = 0, CLOSING = 1, CLOSED = 2;
    private static final int HELD = 0, KEPT = 1, RUN_OUT = 2;
    private static final int PROMISE_OPEN = 0, PROMISE_KEPT = 1, PROMISE_BROKEN = 2, PROMISE_TORN = 3;

    private final People folk = new People();
    private final Pairs pairs = new Pairs();
    private final Promises promises = new Promises();
    private final WaySearch ways = new WaySearch();
    private final RingSearch rings = new RingSearch();
    private final Row latestWay = new Row();
    private int time = 0;
    private int gap = FIRST_GAP;
    private int look = FIRST_LOOK;

    public PromiseChains() {
        folk.begin(LEAST_PEOPLE);
    }

    public int people(int n) {
        if (!isWithin(n, LEAST_PEOPLE, MOST_PEOPLE)) {
            return BAD;
        }
        folk.begin(n);
        pairs.size = 0;
        promises.begin();
        latestWay.length = 0;
        time = 0;
        return 1;
    }

    public int pair(int a, int b, int sideA, int sideB) {
        if (!folk.has(a) || !folk.has(b) || a == b) {
            return BAD;
        }
        if (!isWithin(sideA, 0, MOST_SIDE) || !isWithin(sideB, 0, MOST_SIDE)) {
            return BAD;
        }
        if (pairs.size >= MOST_PAIRS) {
            return FULL;
        }
        return pairs.add(a, b, sideA, sideB);
    }

    public int fee(int person, int base, int rate) {
        if (!folk.has(person) || !isWithin(base, 0, MOST_FEE) || !isWithin(rate, 0, MOST_FEE)) {
            return BAD;
        }
        folk.base[person] = base;
        folk.rate[person] = rate;
        return 1;
    }

    public int gap(int v) {
        if (!isWithin(v, 1, MOST_GAP)) {
            return BAD;
        }
        int before = gap;
        gap = v;
        return before;
    }

    public int look(int v) {
        if (!isWithin(v, 1, MOST_LOOK)) {
            return BAD;
        }
        int before = look;
        look = v;
        return before;
    }

    public int away(int person, boolean is) {
        if (!folk.has(person)) {
            return BAD;
        }
        if (folk.isAway[person] == is) {
            return NO;
        }
        folk.isAway[person] = is;
        if (is) {
            return 0;
        }
        int kept = promises.keepAll(folk, pairs, time);
        pairs.settle(folk, time);
        return kept;
    }

    // ---- promises

    public int best(int s, int d, int x) {
        if (!mayAskWay(s, d, x)) {
            return BAD;
        }
        if (!findWay(s, d, x)) {
            return NONE;
        }
        latestWay.take(ways.best);
        return ways.bestCarries;
    }

    public int wayAt(int i) {
        if (!isWithin(i, 0, latestWay.length - 1)) {
            return NONE;
        }
        return latestWay.pair[i];
    }

    public int promise(int s, int d, int x) {
        if (!mayAskWay(s, d, x)) {
            return BAD;
        }
        if (folk.isAway[s] || !findWay(s, d, x)) {
            return NO;
        }
        if (promises.size >= MOST_PROMISES) {
            return FULL;
        }
        latestWay.take(ways.best);
        return lockAlong(s, x);
    }

    public int tell(int promise) {
        if (!promises.has(promise)) {
            return BAD;
        }
        if (promises.isTold[promise] || promises.held[promise] == 0) {
            return NO;
        }
        promises.isTold[promise] = true;
        return promises.keepAll(folk, pairs, time);
    }

    public int tick(int n) {
        if (!isWithin(n, 1, MOST_TICKS)) {
            return BAD;
        }
        int ranOut = 0;
        for (int i = 0; i < n; i++) {
            time++;
            ranOut += promises.runOut(pairs, time);
            promises.keepAll(folk, pairs, time);
            pairs.settle(folk, time);
        }
        return ranOut;
    }

    public int promiseAt(int promise, int what) {
        if (!promises.has(promise)) {
            return BAD;
        }
        switch (what) {
            case 0: return promises.outcome(promise);
            case 1: return promises.paid[promise];
            case 2: return promises.lockSum[promise * MOST_HOPS];
            case 3: return promises.hops[promise];
            case 4: return promises.kept[promise];
            case 5: return promises.isTold[promise] ? 1 : 0;
            case 6: return promises.payer[promise];
            default: return BAD;
        }
    }

    // ---- pairs

    public int side(int pair, int which) {
        if (!pairs.has(pair) || !isWithin(which, 0, 1)) {
            return BAD;
        }
        return pairs.side[2 * pair + which];
    }

    public int locked(int pair, int which) {
        if (!pairs.has(pair) || !isWithin(which, 0, 1)) {
            return BAD;
        }
        return pairs.locked[2 * pair + which];
    }

    public int about(int pair, int what) {
        if (!pairs.has(pair)) {
            return BAD;
        }
        switch (what) {
            case 0: return pairs.person[2 * pair];
            case 1: return pairs.person[2 * pair + 1];
            case 2: return pairs.phase[pair];
            case 3: return pairs.states[pair];
            case 4: return pairs.phase[pair] == CLOSING ? pairs.end[pair] : NONE;
            default: return BAD;
        }
    }

    public int stateAt(int pair, int i, int which) {
        if (!pairs.has(pair) || i < 0 || !isWithin(which, 0, 1)) {
            return BAD;
        }
        if (i >= pairs.states[pair]) {
            return NONE;
        }
        return pairs.sideInState(pair, i, which);
    }

    public int close(int pair, int person, int state) {
        if (!pairs.has(pair) || !folk.has(person) || !isWithin(state, 0, pairs.states[pair] - 1)) {
            return BAD;
        }
        int closer = pairs.whichIs(pair, person);
        if (closer == NONE) {
            return BAD;
        }
        if (!pairs.isFree(pair) || folk.isAway[person]) {
            return NO;
        }
        pairs.beginClosing(pair, closer, state, time + look);
        return pairs.isCaught(pair, folk) ? 2 : 1;
    }

    public int wealth(int person) {
        if (!folk.has(person)) {
            return BAD;
        }
        int sum = folk.cash[person];
        for (int i = 0; i < 2 * pairs.size; i++) {
            if (pairs.person[i] == person) {
                sum += pairs.side[i] + pairs.locked[i];
            }
        }
        return sum;
    }

    // ---- rings, rooms

    public int off() {
        return pairs.sumOff();
    }

    public int ring(int what, int i) {
        if (!isWithin(what, 0, 4)) {
            return BAD;
        }
        if (!findRing()) {
            return NONE;
        }
        boolean isAsked = isWithin(i, 0, rings.best.length - 1);
        switch (what) {
            case 0: return rings.bestOff;
            case 1: return rings.bestM;
            case 2: return rings.best.length;
            case 3: return isAsked ? rings.best.pair[i] : NONE;
            default: return isAsked ? rings.best.from[i] : NONE;
        }
    }

    public int even() {
        if (!findRing()) {
            return NO;
        }
        for (int i = 0; i < rings.best.length; i++) {
            pairs.move(rings.best.pair[i], rings.best.from[i], rings.bestM);
        }
        return rings.bestM;
    }

    public int tries(int y) {
        if (!isWithin(y, 1, MOST_TRIED)) {
            return BAD;
        }
        if (latestWay.length == 0 || !pairs.areOpen(latestWay)) {
            return NO;
        }
        for (int i = 0; i < latestWay.length; i++) {
            if (!pairs.tryToPay(latestWay.pair[i], latestWay.from[i], y)) {
                return i;
            }
        }
        return latestWay.length;
    }

    public int learnt(int pair, int what) {
        if (!pairs.has(pair) || !isWithin(what, 0, 1)) {
            return BAD;
        }
        return what == 0 ? pairs.least[pair] : pairs.greatest[pair];
    }

    public int count(int what) {
        switch (what) {
            case 0: return folk.size;
            case 1: return pairs.size;
            case 2: return promises.size;
            case 3: return promises.heldInAll;
            case 4: return time;
            case 5: return gap;
            case 6: return look;
            case 7: return folk.howManyAway();
            default: return BAD;
        }
    }

    public long digest() {
        long h = 233;
        for (int what = 0; what <= 7; what++) {
            h = 31 * h + count(what);
        }
        for (int person = 0; person < folk.size; person++) {
            h = 31 * h + wealth(person);
        }
        for (int pair = 0; pair < pairs.size; pair++) {
            h = withPair(h, pair);
        }
        for (int promise = 0; promise < promises.size; promise++) {
            for (int what = 0; what <= 6; what++) {
                h = 31 * h + promiseAt(promise, what);
            }
        }
        return h;
    }

    private long withPair(long before, int pair) {
        long h = before;
        for (int what = 0; what <= 4; what++) {
            h = 31 * h + about(pair, what);
        }
        h = 31 * h + side(pair, 0);
        h = 31 * h + side(pair, 1);
        h = 31 * h + locked(pair, 0);
        h = 31 * h + locked(pair, 1);
        h = 31 * h + learnt(pair, 0);
        return 31 * h + learnt(pair, 1);
    }

    private static boolean isWithin(int v, int least, int most) {
        return v >= least && v <= most;
    }

    private boolean mayAskWay(int s, int d, int x) {
        return folk.has(s) && folk.has(d) && s != d && isWithin(x, 1, MOST_PAID);
    }

    private boolean findWay(int s, int d, int x) {
        ways.begin(s, d);
        searchWays(ways, folk, pairs, d, x, 0);
        return ways.best.length > 0;
    }

    // What a pair carries follows from the pairs behind it, so the search starts at who is to get it.
    private static void searchWays(WaySearch ways, People folk, Pairs pairs, int getter, int carried, int depth) {
        if (depth >= MOST_HOPS) {
            return;
        }
        for (int pair = 0; pair < pairs.size; pair++) {
            int to = pairs.whichIs(pair, getter);
            if (to == NONE || pairs.phase[pair] != OPEN || pairs.side[2 * pair + 1 - to] < carried) {
                continue;
            }
            int giver = pairs.person[2 * pair + 1 - to];
            ways.back.put(depth, pair, 1 - to);
            if (giver == ways.start) {
                ways.offer(depth + 1, carried);
            } else if (!ways.isMet[giver]) {
                ways.isMet[giver] = true;
                searchWays(ways, folk, pairs, giver, carried + folk.feeOf(giver, carried), depth + 1);
                ways.isMet[giver] = false;
            }
        }
    }

    private int lockAlong(int s, int x) {
        int promise = promises.add(s, x, latestWay.length);
        int sum = x;
        for (int i = latestWay.length - 1; i >= 0; i--) {
            int pair = latestWay.pair[i];
            int from = latestWay.from[i];
            promises.putLock(promise, i, pair, from, sum, time + gap * (latestWay.length - i));
            pairs.lock(pair, from, sum);
            sum += folk.feeOf(pairs.person[2 * pair + from], sum);
        }
        return promise;
    }

    private boolean findRing() {
        rings.begin(pairs.sumOff());
        for (int pair = 0; pair < pairs.size; pair++) {
            for (int from = 0; from <= 1; from++) {
                if (!pairs.isFree(pair) || pairs.side[2 * pair + from] == 0) {
                    continue;
                }
                int next = pairs.person[2 * pair + 1 - from];
                rings.home = pairs.person[2 * pair + from];
                rings.now.put(0, pair, from);
                rings.isMet[next] = true;
                searchRings(rings, pairs, next, 1);
                rings.isMet[next] = false;
            }
        }
        return rings.best.length > 0;
    }

    // Only pairs above the first of the row are looked at: so each ring is met once, told from its least pair on.
    private static void searchRings(RingSearch rings, Pairs pairs, int person, int depth) {
        if (depth >= MOST_PEOPLE) {
            return;
        }
        for (int pair = rings.now.pair[0] + 1; pair < pairs.size; pair++) {
            int from = pairs.whichIs(pair, person);
            if (from == NONE || !pairs.isFree(pair) || pairs.side[2 * pair + from] == 0) {
                continue;
            }
            int next = pairs.person[2 * pair + 1 - from];
            rings.now.put(depth, pair, from);
            if (next == rings.home) {
                rings.offer(pairs, depth + 1);
            } else if (!rings.isMet[next]) {
                rings.isMet[next] = true;
                searchRings(rings, pairs, next, depth + 1);
                rings.isMet[next] = false;
            }
        }
    }

    private static final class People {
        int size = 0;
        final int[] cash = new int[MOST_PEOPLE];
        final int[] base = new int[MOST_PEOPLE];
        final int[] rate = new int[MOST_PEOPLE];
        final boolean[] isAway = new boolean[MOST_PEOPLE];

        void begin(int n) {
            size = n;
            for (int i = 0; i < MOST_PEOPLE; i++) {
                cash[i] = 0;
                base[i] = 0;
                rate[i] = 0;
                isAway[i] = false;
            }
        }

        boolean has(int person) {
            return isWithin(person, 0, size - 1);
        }

        int feeOf(int person, int y) {
            return base[person] + y * rate[person] / THOUSANDTHS;
        }

        int howManyAway() {
            int sum = 0;
            for (int i = 0; i < size; i++) {
                sum += isAway[i] ? 1 : 0;
            }
            return sum;
        }
    }

    /** All pairs; what a pair has twice, for a and for b, stands at 2 pair and 2 pair + 1. */
    private static final class Pairs {
        int size = 0;
        final int[] person = new int[2 * MOST_PAIRS];
        final int[] side = new int[2 * MOST_PAIRS];
        final int[] locked = new int[2 * MOST_PAIRS];
        final int[] stateSide = new int[2 * MOST_PAIRS * MOST_STATES];
        final int[] states = new int[MOST_PAIRS];
        final int[] phase = new int[MOST_PAIRS];
        final int[] end = new int[MOST_PAIRS];
        final int[] closer = new int[MOST_PAIRS];
        final int[] closedBy = new int[MOST_PAIRS];
        final int[] least = new int[MOST_PAIRS];
        final int[] greatest = new int[MOST_PAIRS];

        boolean has(int pair) {
            return isWithin(pair, 0, size - 1);
        }

        int add(int a, int b, int sideA, int sideB) {
            int pair = size;
            size++;
            person[2 * pair] = a;
            person[2 * pair + 1] = b;
            locked[2 * pair] = 0;
            locked[2 * pair + 1] = 0;
            states[pair] = 0;
            phase[pair] = OPEN;
            setSides(pair, sideA, sideB);
            addState(pair);
            return pair;
        }

        int whichIs(int pair, int who) {
            if (person[2 * pair] == who) {
                return 0;
            }
            return person[2 * pair + 1] == who ? 1 : NONE;
        }

        boolean isFree(int pair) {
            return phase[pair] == OPEN && locked[2 * pair] == 0 && locked[2 * pair + 1] == 0;
        }

        boolean areOpen(Row row) {
            for (int i = 0; i < row.length; i++) {
                if (phase[row.pair[i]] != OPEN) {
                    return false;
                }
            }
            return true;
        }

        int sideInState(int pair, int i, int which) {
            return stateSide[2 * (pair * MOST_STATES + i) + which];
        }

        int sumOff() {
            int sum = 0;
            for (int pair = 0; pair < size; pair++) {
                if (phase[pair] == OPEN) {
                    sum += Math.abs(side[2 * pair] - side[2 * pair + 1]);
                }
            }
            return sum;
        }

        /** Every change of a side goes through here, as what was learnt of it holds no more. */
        void setSides(int pair, int sideA, int sideB) {
            side[2 * pair] = sideA;
            side[2 * pair + 1] = sideB;
            least[pair] = 0;
            greatest[pair] = sideA + sideB;
        }

        void addToSide(int pair, int which, int sum) {
            if (which == 0) {
                setSides(pair, side[2 * pair] + sum, side[2 * pair + 1]);
            } else {
                setSides(pair, side[2 * pair], side[2 * pair + 1] + sum);
            }
        }

        void addState(int pair) {
            if (states[pair] < MOST_STATES) {
                states[pair]++;
            }
            int at = 2 * (pair * MOST_STATES + states[pair] - 1);
            stateSide[at] = side[2 * pair] + locked[2 * pair];
            stateSide[at + 1] = side[2 * pair + 1] + locked[2 * pair + 1];
        }

        void lock(int pair, int from, int sum) {
            locked[2 * pair + from] += sum;
            addToSide(pair, from, -sum);
        }

        void giveBack(int pair, int from, int sum) {
            locked[2 * pair + from] -= sum;
            addToSide(pair, from, sum);
        }

        void handOver(int pair, int from, int sum) {
            locked[2 * pair + from] -= sum;
            addToSide(pair, 1 - from, sum);
            addState(pair);
        }

        void move(int pair, int from, int sum) {
            addToSide(pair, from, -sum);
            addToSide(pair, 1 - from, sum);
            addState(pair);
        }

        void beginClosing(int pair, int who, int state, int till) {
            phase[pair] = CLOSING;
            closer[pair] = who;
            closedBy[pair] = state;
            end[pair] = till;
        }

        /** Whether the other one sees an old state now: then it has all and the pair is closed. */
        boolean isCaught(int pair, People folk) {
            int other = 1 - closer[pair];
            int latest = states[pair] - 1;
            if (closedBy[pair] == latest || folk.isAway[person[2 * pair + other]]) {
                return false;
            }
            int all = sideInState(pair, latest, 0) + sideInState(pair, latest, 1);
            folk.cash[person[2 * pair + other]] += all;
            finish(pair);
            return true;
        }

        void settle(People folk, int time) {
            for (int pair = 0; pair < size; pair++) {
                if (phase[pair] != CLOSING) {
                    continue;
                }
                if (time < end[pair]) {
                    isCaught(pair, folk);
                } else {
                    folk.cash[person[2 * pair]] += sideInState(pair, closedBy[pair], 0);
                    folk.cash[person[2 * pair + 1]] += sideInState(pair, closedBy[pair], 1);
                    finish(pair);
                }
            }
        }

        void finish(int pair) {
            phase[pair] = CLOSED;
            setSides(pair, 0, 0);
        }

        /** One step of a try; the sum of both sides is known, so b's side tells a's. */
        boolean tryToPay(int pair, int from, int y) {
            int both = side[2 * pair] + side[2 * pair + 1];
            boolean goesOn = side[2 * pair + from] >= y;
            if (from == 0 && goesOn) {
                least[pair] = Math.max(least[pair], y);
            } else if (from == 0) {
                greatest[pair] = Math.min(greatest[pair], y - 1);
            } else if (goesOn) {
                greatest[pair] = Math.min(greatest[pair], both - y);
            } else {
                least[pair] = Math.max(least[pair], both - y + 1);
            }
            return goesOn;
        }
    }

    /** All promises; lock i of promise p stands at p MOST_HOPS + i. */
    private static final class Promises {
        int size = 0;
        int heldInAll = 0;
        final int[] payer = new int[MOST_PROMISES];
        final int[] paid = new int[MOST_PROMISES];
        final int[] hops = new int[MOST_PROMISES];
        final int[] held = new int[MOST_PROMISES];
        final int[] kept = new int[MOST_PROMISES];
        final boolean[] isTold = new boolean[MOST_PROMISES];
        final int[] lockPair = new int[MOST_LOCKS];
        final int[] lockFrom = new int[MOST_LOCKS];
        final int[] lockSum = new int[MOST_LOCKS];
        final int[] lockClock = new int[MOST_LOCKS];
        final int[] lockPhase = new int[MOST_LOCKS];

        void begin() {
            size = 0;
            heldInAll = 0;
        }

        boolean has(int promise) {
            return isWithin(promise, 0, size - 1);
        }

        int add(int s, int x, int length) {
            int promise = size;
            size++;
            payer[promise] = s;
            paid[promise] = x;
            hops[promise] = length;
            held[promise] = length;
            kept[promise] = 0;
            isTold[promise] = false;
            heldInAll += length;
            return promise;
        }

        void putLock(int promise, int i, int pair, int from, int sum, int clock) {
            int lock = promise * MOST_HOPS + i;
            lockPair[lock] = pair;
            lockFrom[lock] = from;
            lockSum[lock] = sum;
            lockClock[lock] = clock;
            lockPhase[lock] = HELD;
        }

        int outcome(int promise) {
            if (held[promise] > 0) {
                return PROMISE_OPEN;
            }
            if (kept[promise] == hops[promise]) {
                return PROMISE_KEPT;
            }
            return kept[promise] == 0 ? PROMISE_BROKEN : PROMISE_TORN;
        }

        int runOut(Pairs pairs, int time) {
            int ranOut = 0;
            for (int promise = 0; promise < size; promise++) {
                for (int i = 0; i < hops[promise] && held[promise] > 0; i++) {
                    int lock = promise * MOST_HOPS + i;
                    if (lockPhase[lock] == HELD && lockClock[lock] <= time) {
                        endLock(promise, lock, RUN_OUT);
                        pairs.giveBack(lockPair[lock], lockFrom[lock], lockSum[lock]);
                        ranOut++;
                    }
                }
            }
            return ranOut;
        }

        int keepAll(People folk, Pairs pairs, int time) {
            int sum = 0;
            for (int round = 0; round < MOST_LOCKS; round++) {
                int now = keepRound(folk, pairs, time);
                if (now == 0) {
                    break;
                }
                sum += now;
            }
            return sum;
        }

        // The locks of a promise are gone through from the first on: who learns a word in a round uses it in the next.
        int keepRound(People folk, Pairs pairs, int time) {
            int sum = 0;
            for (int promise = 0; promise < size; promise++) {
                for (int i = 0; i < hops[promise] && held[promise] > 0; i++) {
                    int lock = promise * MOST_HOPS + i;
                    if (isWordKnown(promise, i) && mayBeKept(folk, pairs, lock, time)) {
                        endLock(promise, lock, KEPT);
                        kept[promise]++;
                        pairs.handOver(lockPair[lock], lockFrom[lock], lockSum[lock]);
                        sum++;
                    }
                }
            }
            return sum;
        }

        boolean isWordKnown(int promise, int i) {
            if (i == hops[promise] - 1) {
                return isTold[promise];
            }
            return lockPhase[promise * MOST_HOPS + i + 1] == KEPT;
        }

        boolean mayBeKept(People folk, Pairs pairs, int lock, int time) {
            int getter = pairs.person[2 * lockPair[lock] + 1 - lockFrom[lock]];
            return lockPhase[lock] == HELD && !folk.isAway[getter] && time < lockClock[lock];
        }

        void endLock(int promise, int lock, int how) {
            lockPhase[lock] = how;
            held[promise]--;
            heldInAll--;
        }
    }

    /** Pairs one behind the other, each with the side that pays on it. */
    private static final class Row {
        int length = 0;
        final int[] pair = new int[MOST_PEOPLE];
        final int[] from = new int[MOST_PEOPLE];

        void put(int i, int number, int which) {
            pair[i] = number;
            from[i] = which;
        }

        void take(Row other) {
            length = other.length;
            for (int i = 0; i < length; i++) {
                put(i, other.pair[i], other.from[i]);
            }
        }

        void takeTurned(Row other) {
            length = other.length;
            for (int i = 0; i < length; i++) {
                put(i, other.pair[length - 1 - i], other.from[length - 1 - i]);
            }
        }

        boolean isAhead(Row other) {
            if (length != other.length) {
                return length < other.length;
            }
            for (int i = 0; i < length; i++) {
                if (pair[i] != other.pair[i]) {
                    return pair[i] < other.pair[i];
                }
            }
            return false;
        }
    }

    private static final class WaySearch {
        int start = 0;
        int bestCarries = 0;
        final boolean[] isMet = new boolean[MOST_PEOPLE];
        final Row back = new Row();
        final Row turned = new Row();
        final Row best = new Row();

        void begin(int s, int d) {
            start = s;
            best.length = 0;
            for (int i = 0; i < MOST_PEOPLE; i++) {
                isMet[i] = i == d;
            }
        }

        void offer(int length, int carries) {
            back.length = length;
            turned.takeTurned(back);
            if (best.length == 0 || carries < bestCarries || carries == bestCarries && turned.isAhead(best)) {
                best.take(turned);
                bestCarries = carries;
            }
        }
    }

    private static final class RingSearch {
        int home = 0;
        int offBefore = 0;
        int bestOff = 0;
        int bestM = 0;
        // Each search leaves it as it was: nobody is met.
        final boolean[] isMet = new boolean[MOST_PEOPLE];
        final Row now = new Row();
        final Row best = new Row();

        void begin(int off) {
            offBefore = off;
            best.length = 0;
        }

        // OFF falls, then rises with m, and bends only where the two sides of a pair come nearest:
        // so the least OFF, and the least m with it, is at such a place or at the greatest m.
        void offer(Pairs pairs, int length) {
            if (length < LEAST_RING) {
                return;
            }
            now.length = length;
            int most = leastPayingSide(pairs);
            weigh(pairs, most, most);
            for (int i = 0; i < length; i++) {
                int ahead = difference(pairs, i);
                weigh(pairs, ahead / 2, most);
                weigh(pairs, ahead - ahead / 2, most);
            }
        }

        int leastPayingSide(Pairs pairs) {
            int least = MOST_TRIED;
            for (int i = 0; i < now.length; i++) {
                least = Math.min(least, pairs.side[2 * now.pair[i] + now.from[i]]);
            }
            return least;
        }

        int difference(Pairs pairs, int i) {
            int paying = 2 * now.pair[i] + now.from[i];
            int getting = 2 * now.pair[i] + 1 - now.from[i];
            return pairs.side[paying] - pairs.side[getting];
        }

        void weigh(Pairs pairs, int m, int most) {
            if (!isWithin(m, 1, most)) {
                return;
            }
            int off = offBefore;
            for (int i = 0; i < now.length; i++) {
                int ahead = difference(pairs, i);
                off += Math.abs(ahead - 2 * m) - Math.abs(ahead);
            }
            if (off < offBefore && isBetter(off, m)) {
                best.take(now);
                bestOff = off;
                bestM = m;
            }
        }

        boolean isBetter(int off, int m) {
            if (best.length == 0 || off != bestOff) {
                return best.length == 0 || off < bestOff;
            }
            return m < bestM || m == bestM && now.isAhead(best);
        }
    }
}
