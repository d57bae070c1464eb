import java.util.ArrayList;
import java.util.Collections;
import java.util.Comparator;
import java.util.List;

/** The document once more, slow and plain: every way and ring is written out, every m is tried. */
final class Model {
    static final int NONE = -1, BAD = -2, NO = -3, FULL = -4;

    static final class Purse {
        int[] who = new int[2];
        int[] side = new int[2];
        int[] locked = new int[2];
        List<int[]> states = new ArrayList<>();
        int phase = 0;
        int end, closer, told;
        int least, greatest;
    }

    static final class Lock {
        int purse, from, sum, clock;
        char is = 'h';
    }

    static final class Chain {
        int s, x;
        boolean told;
        List<Lock> locks = new ArrayList<>();

        int number(char is) {
            int n = 0;
            for (Lock lock : locks) {
                n += lock.is == is ? 1 : 0;
            }
            return n;
        }
    }

    static final class Step {
        final int purse, from;

        Step(int purse, int from) {
            this.purse = purse;
            this.from = from;
        }
    }

    static final class Choice {
        int worth, m;
        List<Step> steps;
    }

    private static final Comparator<Choice> ORDER = (p, q) -> {
        if (p.worth != q.worth) {
            return Integer.compare(p.worth, q.worth);
        }
        if (p.m != q.m) {
            return Integer.compare(p.m, q.m);
        }
        if (p.steps.size() != q.steps.size()) {
            return Integer.compare(p.steps.size(), q.steps.size());
        }
        for (int i = 0; i < p.steps.size(); i++) {
            if (p.steps.get(i).purse != q.steps.get(i).purse) {
                return Integer.compare(p.steps.get(i).purse, q.steps.get(i).purse);
            }
        }
        return Integer.compare(p.steps.get(0).from, q.steps.get(0).from);
    };

    int n = 2, time = 0, gap = 3, look = 5;
    int[] cash = new int[7], base = new int[7], rate = new int[7];
    boolean[] away = new boolean[7];
    List<Purse> purses = new ArrayList<>();
    List<Chain> chains = new ArrayList<>();
    List<Step> way = new ArrayList<>();

    private static boolean out(int v, int least, int most) {
        return v < least || v > most;
    }

    private boolean nobody(int person) {
        return out(person, 0, n - 1);
    }

    private boolean noPair(int pair) {
        return out(pair, 0, purses.size() - 1);
    }

    int people(int many) {
        if (out(many, 2, 7)) {
            return BAD;
        }
        n = many;
        time = 0;
        cash = new int[7];
        base = new int[7];
        rate = new int[7];
        away = new boolean[7];
        purses = new ArrayList<>();
        chains = new ArrayList<>();
        way = new ArrayList<>();
        return 1;
    }

    int pair(int a, int b, int sideA, int sideB) {
        if (nobody(a) || nobody(b) || a == b || out(sideA, 0, 100000) || out(sideB, 0, 100000)) {
            return BAD;
        }
        if (purses.size() == 12) {
            return FULL;
        }
        Purse purse = new Purse();
        purse.who[0] = a;
        purse.who[1] = b;
        purse.side[0] = sideA;
        purse.side[1] = sideB;
        purses.add(purse);
        changed(purse);
        noteState(purse);
        return purses.size() - 1;
    }

    private void changed(Purse purse) {
        purse.least = 0;
        purse.greatest = purse.side[0] + purse.side[1];
    }

    private void noteState(Purse purse) {
        if (purse.states.size() == 64) {
            purse.states.remove(63);
        }
        purse.states.add(new int[] {purse.side[0] + purse.locked[0], purse.side[1] + purse.locked[1]});
    }

    int fee(int person, int b, int r) {
        if (nobody(person) || out(b, 0, 100) || out(r, 0, 100)) {
            return BAD;
        }
        base[person] = b;
        rate[person] = r;
        return 1;
    }

    int gap(int v) {
        if (out(v, 1, 50)) {
            return BAD;
        }
        int was = gap;
        gap = v;
        return was;
    }

    int look(int v) {
        if (out(v, 1, 50)) {
            return BAD;
        }
        int was = look;
        look = v;
        return was;
    }

    int away(int person, boolean is) {
        if (nobody(person)) {
            return BAD;
        }
        if (away[person] == is) {
            return NO;
        }
        away[person] = is;
        int kept = is ? 0 : keep();
        if (!is) {
            closings();
        }
        return kept;
    }

    private int keep() {
        int kept = 0;
        while (true) {
            List<Lock> now = new ArrayList<>();
            for (Chain chain : chains) {
                boolean known = chain.told;
                for (int i = chain.locks.size() - 1; i >= 0; i--) {
                    Lock lock = chain.locks.get(i);
                    int getter = purses.get(lock.purse).who[1 - lock.from];
                    if (known && lock.is == 'h' && !away[getter] && time < lock.clock) {
                        now.add(lock);
                    }
                    known = lock.is == 'k';
                }
            }
            if (now.isEmpty()) {
                return kept;
            }
            for (Lock lock : now) {
                Purse purse = purses.get(lock.purse);
                lock.is = 'k';
                purse.locked[lock.from] -= lock.sum;
                purse.side[1 - lock.from] += lock.sum;
                changed(purse);
                noteState(purse);
                kept++;
            }
        }
    }

    private void closings() {
        for (Purse purse : purses) {
            if (purse.phase != 1) {
                continue;
            }
            int[] latest = purse.states.get(purse.states.size() - 1);
            int other = purse.who[1 - purse.closer];
            if (time >= purse.end) {
                cash[purse.who[0]] += purse.states.get(purse.told)[0];
                cash[purse.who[1]] += purse.states.get(purse.told)[1];
            } else if (purse.told != purse.states.size() - 1 && !away[other]) {
                cash[other] += latest[0] + latest[1];
            } else {
                continue;
            }
            purse.phase = 2;
            purse.side = new int[2];
            changed(purse);
        }
    }

    private Choice bestWay(int s, int d, int x) {
        List<Choice> all = new ArrayList<>();
        walk(s, d, x, new ArrayList<>(), new ArrayList<>(List.of(s)), all);
        return all.isEmpty() ? null : Collections.min(all, ORDER);
    }

    private void walk(int at, int d, int x, List<Step> steps, List<Integer> met, List<Choice> all) {
        if (at == d) {
            Choice choice = new Choice();
            choice.worth = x;
            for (int i = steps.size() - 1; i >= 0; i--) {
                Purse purse = purses.get(steps.get(i).purse);
                int from = steps.get(i).from;
                if (i < steps.size() - 1) {
                    int between = purse.who[1 - from];
                    choice.worth += base[between] + choice.worth * rate[between] / 1000;
                }
                if (choice.worth > purse.side[from]) {
                    return;
                }
            }
            choice.steps = new ArrayList<>(steps);
            all.add(choice);
            return;
        }
        for (int p = 0; p < purses.size(); p++) {
            for (int from = 0; from < 2; from++) {
                int to = purses.get(p).who[1 - from];
                if (purses.get(p).phase == 0 && purses.get(p).who[from] == at && !met.contains(to)) {
                    steps.add(new Step(p, from));
                    met.add(to);
                    walk(to, d, x, steps, met, all);
                    steps.remove(steps.size() - 1);
                    met.remove(met.size() - 1);
                }
            }
        }
    }

    private boolean badAsk(int s, int d, int x) {
        return nobody(s) || nobody(d) || s == d || out(x, 1, 100000);
    }

    int best(int s, int d, int x) {
        if (badAsk(s, d, x)) {
            return BAD;
        }
        Choice choice = bestWay(s, d, x);
        if (choice == null) {
            return NONE;
        }
        way = choice.steps;
        return choice.worth;
    }

    int wayAt(int i) {
        return out(i, 0, way.size() - 1) ? NONE : way.get(i).purse;
    }

    int promise(int s, int d, int x) {
        if (badAsk(s, d, x)) {
            return BAD;
        }
        Choice choice = bestWay(s, d, x);
        if (choice == null || away[s]) {
            return NO;
        }
        if (chains.size() == 40) {
            return FULL;
        }
        way = choice.steps;
        Chain chain = new Chain();
        chain.s = s;
        chain.x = x;
        int sum = x;
        for (int i = way.size() - 1; i >= 0; i--) {
            Lock lock = new Lock();
            lock.purse = way.get(i).purse;
            lock.from = way.get(i).from;
            lock.sum = sum;
            lock.clock = time + (way.size() - i) * gap;
            chain.locks.add(0, lock);
            Purse purse = purses.get(lock.purse);
            purse.side[lock.from] -= sum;
            purse.locked[lock.from] += sum;
            changed(purse);
            int giver = purse.who[lock.from];
            sum += base[giver] + sum * rate[giver] / 1000;
        }
        chains.add(chain);
        return chains.size() - 1;
    }

    int tell(int promise) {
        if (out(promise, 0, chains.size() - 1)) {
            return BAD;
        }
        Chain chain = chains.get(promise);
        if (chain.told || chain.number('h') == 0) {
            return NO;
        }
        chain.told = true;
        return keep();
    }

    int tick(int ticks) {
        if (out(ticks, 1, 60)) {
            return BAD;
        }
        int ran = 0;
        for (int i = 0; i < ticks; i++) {
            time++;
            for (Chain chain : chains) {
                for (Lock lock : chain.locks) {
                    if (lock.is == 'h' && lock.clock <= time) {
                        lock.is = 'r';
                        Purse purse = purses.get(lock.purse);
                        purse.locked[lock.from] -= lock.sum;
                        purse.side[lock.from] += lock.sum;
                        changed(purse);
                        ran++;
                    }
                }
            }
            keep();
            closings();
        }
        return ran;
    }

    int promiseAt(int promise, int what) {
        if (out(promise, 0, chains.size() - 1) || out(what, 0, 6)) {
            return BAD;
        }
        Chain chain = chains.get(promise);
        int all = chain.locks.size();
        int kept = chain.number('k');
        int is = chain.number('h') > 0 ? 0 : kept == all ? 1 : kept == 0 ? 2 : 3;
        return new int[] {is, chain.x, chain.locks.get(0).sum, all, kept, chain.told ? 1 : 0, chain.s}[what];
    }

    int side(int pair, int which) {
        return noPair(pair) || out(which, 0, 1) ? BAD : purses.get(pair).side[which];
    }

    int locked(int pair, int which) {
        return noPair(pair) || out(which, 0, 1) ? BAD : purses.get(pair).locked[which];
    }

    int about(int pair, int what) {
        if (noPair(pair) || out(what, 0, 4)) {
            return BAD;
        }
        Purse purse = purses.get(pair);
        int end = purse.phase == 1 ? purse.end : NONE;
        return new int[] {purse.who[0], purse.who[1], purse.phase, purse.states.size(), end}[what];
    }

    int stateAt(int pair, int i, int which) {
        if (noPair(pair) || i < 0 || out(which, 0, 1)) {
            return BAD;
        }
        return i >= purses.get(pair).states.size() ? NONE : purses.get(pair).states.get(i)[which];
    }

    int close(int pair, int person, int state) {
        if (noPair(pair) || nobody(person)) {
            return BAD;
        }
        Purse purse = purses.get(pair);
        boolean isOfIt = purse.who[0] == person || purse.who[1] == person;
        if (!isOfIt || out(state, 0, purse.states.size() - 1)) {
            return BAD;
        }
        if (purse.phase != 0 || purse.locked[0] + purse.locked[1] > 0 || away[person]) {
            return NO;
        }
        purse.phase = 1;
        purse.closer = purse.who[0] == person ? 0 : 1;
        purse.told = state;
        purse.end = time + look;
        closings();
        return purse.phase;
    }

    int wealth(int person) {
        if (nobody(person)) {
            return BAD;
        }
        int sum = cash[person];
        for (Purse purse : purses) {
            for (int which = 0; which < 2; which++) {
                sum += purse.who[which] == person ? purse.side[which] + purse.locked[which] : 0;
            }
        }
        return sum;
    }

    int off() {
        int sum = 0;
        for (Purse purse : purses) {
            sum += purse.phase == 0 ? Math.abs(purse.side[0] - purse.side[1]) : 0;
        }
        return sum;
    }

    private Choice bestRing() {
        List<Choice> all = new ArrayList<>();
        for (int home = 0; home < n; home++) {
            round(home, home, new ArrayList<>(), new ArrayList<>(), all);
        }
        return all.isEmpty() ? null : Collections.min(all, ORDER);
    }

    private void round(int home, int at, List<Step> steps, List<Integer> met, List<Choice> all) {
        if (at == home && steps.size() > 0) {
            if (steps.size() >= 3 && steps.get(0).purse == least(steps)) {
                weigh(steps, all);
            }
            return;
        }
        for (int p = 0; p < purses.size(); p++) {
            Purse purse = purses.get(p);
            if (purse.phase != 0 || purse.locked[0] + purse.locked[1] > 0) {
                continue;
            }
            for (int from = 0; from < 2; from++) {
                int to = purse.who[1 - from];
                if (purse.who[from] == at && !met.contains(to)) {
                    steps.add(new Step(p, from));
                    met.add(to);
                    round(home, to, steps, met, all);
                    steps.remove(steps.size() - 1);
                    met.remove(met.size() - 1);
                }
            }
        }
    }

    private static int least(List<Step> steps) {
        int least = 12;
        for (Step step : steps) {
            least = Math.min(least, step.purse);
        }
        return least;
    }

    private void weigh(List<Step> steps, List<Choice> all) {
        Choice best = null;
        int before = off();
        for (int m = 1; mayMove(steps, m); m++) {
            move(steps, m);
            int with = off();
            move(steps, -m);
            if (with < before && (best == null || with < best.worth)) {
                best = new Choice();
                best.worth = with;
                best.m = m;
                best.steps = new ArrayList<>(steps);
            }
        }
        if (best != null) {
            all.add(best);
        }
    }

    private boolean mayMove(List<Step> steps, int m) {
        for (Step step : steps) {
            if (purses.get(step.purse).side[step.from] < m) {
                return false;
            }
        }
        return true;
    }

    private void move(List<Step> steps, int m) {
        for (Step step : steps) {
            purses.get(step.purse).side[step.from] -= m;
            purses.get(step.purse).side[1 - step.from] += m;
        }
    }

    int ring(int what, int i) {
        if (out(what, 0, 4)) {
            return BAD;
        }
        Choice ring = bestRing();
        if (ring == null || what > 2 && out(i, 0, ring.steps.size() - 1)) {
            return NONE;
        }
        if (what > 2) {
            return what == 3 ? ring.steps.get(i).purse : ring.steps.get(i).from;
        }
        return what == 0 ? ring.worth : what == 1 ? ring.m : ring.steps.size();
    }

    int even() {
        Choice ring = bestRing();
        if (ring == null) {
            return NO;
        }
        move(ring.steps, ring.m);
        for (Step step : ring.steps) {
            changed(purses.get(step.purse));
            noteState(purses.get(step.purse));
        }
        return ring.m;
    }

    int tries(int y) {
        if (out(y, 1, 200000)) {
            return BAD;
        }
        for (Step step : way) {
            if (purses.get(step.purse).phase != 0) {
                return NO;
            }
        }
        if (way.isEmpty()) {
            return NO;
        }
        int over = 0;
        for (Step step : way) {
            Purse purse = purses.get(step.purse);
            int both = purse.side[0] + purse.side[1];
            boolean enough = purse.side[step.from] >= y;
            int low = enough ? y : 0;
            int high = enough ? both : y - 1;
            if (step.from == 1) {
                int turned = both - low;
                low = both - high;
                high = turned;
            }
            purse.least = Math.max(purse.least, low);
            purse.greatest = Math.min(purse.greatest, high);
            if (!enough) {
                break;
            }
            over++;
        }
        return over;
    }

    int learnt(int pair, int what) {
        if (noPair(pair) || out(what, 0, 1)) {
            return BAD;
        }
        return what == 0 ? purses.get(pair).least : purses.get(pair).greatest;
    }

    int count(int what) {
        if (out(what, 0, 7)) {
            return BAD;
        }
        int locks = 0;
        for (Chain chain : chains) {
            locks += chain.number('h');
        }
        int gone = 0;
        for (int i = 0; i < n; i++) {
            gone += away[i] ? 1 : 0;
        }
        return new int[] {n, purses.size(), chains.size(), locks, time, gap, look, gone}[what];
    }

    long digest() {
        List<Integer> all = new ArrayList<>();
        for (int what = 0; what <= 7; what++) {
            all.add(count(what));
        }
        for (int person = 0; person < n; person++) {
            all.add(wealth(person));
        }
        for (int p = 0; p < purses.size(); p++) {
            for (int what = 0; what <= 4; what++) {
                all.add(about(p, what));
            }
            all.addAll(List.of(side(p, 0), side(p, 1), locked(p, 0), locked(p, 1), learnt(p, 0), learnt(p, 1)));
        }
        for (int p = 0; p < chains.size(); p++) {
            for (int what = 0; what <= 6; what++) {
                all.add(promiseAt(p, what));
            }
        }
        long h = 233;
        for (int v : all) {
            h = 31 * h + v;
        }
        return h;
    }
}
