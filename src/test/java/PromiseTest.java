/** For each promise of the document: ordinary inputs, edges and wrong inputs, with answers worked out by hand. */
public final class PromiseTest {
    private static final int NONE = -1, BAD = -2, NO = -3, FULL = -4;
    private static final int LOW = Integer.MIN_VALUE, HIGH = Integer.MAX_VALUE;
    private static final Check check = new Check();

    public static void main(String[] args) {
        newObject();
        people();
        pair();
        fee();
        gap();
        look();
        away();
        awayAndClosings();
        best();
        bestOfLikeOnes();
        wayAt();
        promise();
        promiseFull();
        tell();
        tick();
        promiseAt();
        side();
        locked();
        about();
        stateAt();
        statesAreSixtyFour();
        roundsOfKeeping();
        close();
        closeByOldState();
        wealth();
        off();
        ring();
        ringOfLikeOnes();
        ringIsTrimmed();
        even();
        tries();
        learnt();
        count();
        digest();
        wrongNumbersFirst();
        refusedChangesNothing();
        check.end();
    }

    private static void due(String what, long got, long want) {
        check.due(what, got, want);
    }

    /** 0 - 1 - 2 - 3 in a row, 100 on each side. */
    private static PromiseChains row() {
        PromiseChains x = new PromiseChains();
        x.people(4);
        x.pair(0, 1, 100, 100);
        x.pair(1, 2, 100, 100);
        x.pair(2, 3, 100, 100);
        return x;
    }

    /** Pairs 0 (0, 1), 1 (1, 2), 2 (2, 0). */
    private static PromiseChains triangle(int a0, int b0, int a1, int b1, int a2, int b2) {
        PromiseChains x = new PromiseChains();
        x.people(3);
        x.pair(0, 1, a0, b0);
        x.pair(1, 2, a1, b1);
        x.pair(2, 0, a2, b2);
        return x;
    }

    private static void newObject() {
        PromiseChains x = new PromiseChains();
        int[] counts = {2, 0, 0, 0, 0, 3, 5, 0};
        for (int what = 0; what < 8; what++) {
            due("new: count(" + what + ")", x.count(what), counts[what]);
        }
        due("new: wealth(1)", x.wealth(1), 0);
        due("new: wealth(2)", x.wealth(2), BAD);
        due("new: side(0, 0)", x.side(0, 0), BAD);
        due("new: off", x.off(), 0);
        due("new: wayAt(0)", x.wayAt(0), NONE);
        due("new: ring", x.ring(0, 0), NONE);
        due("new: even", x.even(), NO);
        due("new: tries", x.tries(1), NO);
        due("new: best", x.best(0, 1, 1), NONE);
        due("new: promise", x.promise(0, 1, 1), NO);
        due("new: tell", x.tell(0), BAD);
    }

    private static void people() {
        PromiseChains x = new PromiseChains();
        for (int n : new int[] {LOW, -1, 0, 1, 8, HIGH}) {
            due("people(" + n + ")", x.people(n), BAD);
        }
        due("people stay", x.count(0), 2);
        due("people(7)", x.people(7), 1);
        due("seven", x.count(0), 7);
        x = row();
        x.gap(7);
        x.look(9);
        x.fee(1, 5, 50);
        x.promise(0, 3, 10);
        x.away(2, true);
        x.close(2, 3, 0);
        x.tick(60);
        due("cash ahead", x.wealth(3), 100);
        due("people(4) anew", x.people(4), 1);
        int[] counts = {4, 0, 0, 0, 0, 7, 9, 0};
        for (int what = 0; what < 8; what++) {
            due("anew: count(" + what + ")", x.count(what), counts[what]);
        }
        due("anew: no cash", x.wealth(3), 0);
        due("anew: no pair", x.side(0, 0), BAD);
        due("anew: no promise", x.promiseAt(0, 0), BAD);
        due("anew: no way", x.wayAt(0), NONE);
        due("anew: no way to try", x.tries(1), NO);
        due("anew: pair", x.pair(0, 1, 50, 1), 0);
        due("anew: open", x.about(0, 2), 0);
        due("anew: not locked", x.locked(0, 0), 0);
        due("anew: one state", x.about(0, 3), 1);
        x.pair(1, 2, 50, 1);
        due("anew: no fee", x.best(0, 2, 50), 50);
        due("anew: promise", x.promise(0, 2, 50), 0);
        due("anew: not told", x.promiseAt(0, 5), 0);
        due("anew: none kept", x.promiseAt(0, 4), 0);
    }

    private static void pair() {
        PromiseChains x = new PromiseChains();
        int[][] wrong = {{-1, 1, 1, 1}, {0, -1, 1, 1}, {2, 1, 1, 1}, {0, 2, 1, 1}, {1, 1, 1, 1}, {0, 1, -1, 1},
            {0, 1, 1, -1}, {0, 1, 100001, 1}, {0, 1, 1, 100001}, {LOW, 1, 1, 1}, {0, HIGH, 1, 1}, {0, 1, LOW, HIGH}};
        for (int[] v : wrong) {
            due("wrong pair", x.pair(v[0], v[1], v[2], v[3]), BAD);
        }
        due("no pair came", x.count(1), 0);
        due("pair of edges", x.pair(1, 0, 0, 100000), 0);
        due("a", x.about(0, 0), 1);
        due("b", x.about(0, 1), 0);
        due("a's side", x.side(0, 0), 0);
        due("b's side", x.side(0, 1), 100000);
        for (int i = 1; i < 12; i++) {
            due("pair " + i + " between the same", x.pair(0, 1, i, 2 * i), i);
        }
        due("a thirteenth", x.pair(0, 1, 1, 1), FULL);
        due("a wrong thirteenth", x.pair(0, 0, 1, 1), BAD);
        due("twelve", x.count(1), 12);
        due("the last one", x.side(11, 1), 22);
    }

    private static void fee() {
        PromiseChains x = row();
        due("fee", x.fee(1, 100, 100), 1);
        due("base and rate", x.best(0, 2, 1), NONE);
        due("fee 3 and 5 thousandths", x.fee(1, 3, 5), 1);
        due("rate is cut away", x.best(0, 2, 1), 4);
        due("rate of 96 is 0", x.best(0, 2, 96), 99);
        due("who pays and who gets take none", x.fee(0, 100, 100), 1);
        due("who gets takes none", x.fee(2, 100, 100), 1);
        due("still", x.best(0, 2, 96), 99);
        int[][] wrong = {{-1, 0, 0}, {4, 0, 0}, {0, -1, 0}, {0, 101, 0}, {0, 0, -1}, {0, 0, 101}, {LOW, 1, 1}, {1, HIGH, 1}};
        for (int[] v : wrong) {
            due("wrong fee", x.fee(v[0], v[1], v[2]), BAD);
        }
        x = new PromiseChains();
        x.people(3);
        x.pair(0, 1, 100000, 0);
        x.pair(1, 2, 100000, 0);
        x.fee(1, 0, 100);
        due("a tenth", x.best(0, 2, 90909), 99999);
        due("more than a side, by the fee", x.best(0, 2, 90910), NONE);
    }

    private static void gap() {
        PromiseChains x = row();
        for (int v : new int[] {LOW, -1, 0, 51, HIGH}) {
            due("wrong gap", x.gap(v), BAD);
        }
        due("gap at first", x.gap(1), 3);
        due("gap then", x.gap(50), 1);
        due("gap of 50", x.count(5), 50);
        x.gap(2);
        x.promise(0, 3, 10);
        x.gap(1);
        due("clocks are 2, 4, 6: none at 1", x.tick(1), 0);
        due("at 2", x.tick(1), 1);
        due("the last ran out first", x.locked(2, 0), 0);
        due("at 3", x.tick(1), 0);
        due("at 4", x.tick(1), 1);
        due("then the middle one", x.locked(1, 0), 0);
        due("the first is locked", x.locked(0, 0), 10);
        due("at 5, 6", x.tick(2), 1);
        due("none is", x.count(3), 0);
    }

    private static void look() {
        PromiseChains x = row();
        for (int v : new int[] {LOW, -1, 0, 51, HIGH}) {
            due("wrong look", x.look(v), BAD);
        }
        due("look at first", x.look(1), 5);
        due("look then", x.look(50), 1);
        due("look of 50", x.count(6), 50);
        x.look(1);
        x.tick(3);
        x.close(0, 0, 0);
        due("end", x.about(0, 4), 4);
        x.look(4);
        due("look stays what it was for it", x.about(0, 4), 4);
        x.tick(1);
        due("closed", x.about(0, 2), 2);
    }

    private static void away() {
        PromiseChains x = row();
        for (int person : new int[] {LOW, -1, 4, HIGH}) {
            due("wrong person away", x.away(person, true), BAD);
            due("wrong person back", x.away(person, false), BAD);
        }
        due("is there", x.away(1, false), NO);
        due("goes", x.away(1, true), 0);
        due("is away", x.away(1, true), NO);
        due("one away", x.count(7), 1);
        due("ways go over who is away", x.best(0, 3, 10), 10);
        x.promise(0, 3, 10);
        due("told", x.tell(0), 2);
        due("1 has not got it", x.side(0, 1), 100);
        due("1 pays all the same", x.side(1, 0), 90);
        due("back in time", x.away(1, false), 1);
        due("1 has it", x.side(0, 1), 110);
        due("kept", x.promiseAt(0, 0), 1);
        x.promise(0, 3, 10);
        x.away(3, true);
        due("told to who is away", x.tell(1), 0);
        due("told", x.promiseAt(1, 5), 1);
        x.tick(2);
        due("d is back: all in a chain", x.away(3, false), 3);
        x.promise(0, 3, 10);
        x.away(3, true);
        x.tell(2);
        x.tick(3);
        due("back too late", x.away(3, false), 0);
        due("the word goes no further", x.tick(6), 2);
        due("broken", x.promiseAt(2, 0), 2);
        x.away(2, true);
        x.away(1, true);
        due("two away", x.count(7), 2);
    }

    private static void awayAndClosings() {
        PromiseChains x = row();
        x.promise(0, 1, 10);
        x.tell(0);
        x.away(1, true);
        due("closed by an old state", x.close(0, 0, 0), 1);
        due("closing", x.about(0, 2), 1);
        due("closed by the latest one", x.close(1, 2, 0), 1);
        due("comes back: nothing kept", x.away(1, false), 0);
        due("and looks", x.about(0, 2), 2);
        due("gets all", x.wealth(1), 300);
        due("loses all", x.wealth(0), 0);
        due("the latest state is let be", x.about(1, 2), 1);
        x.tick(5);
        due("till its end", x.about(1, 2), 2);
        due("with its sides", x.wealth(1), 300);
        due("and the other's", x.wealth(2), 200);
        x = row();
        x.promise(0, 1, 10);
        x.tell(0);
        x.away(1, true);
        x.close(0, 0, 0);
        x.away(2, true);
        due("another one is back", x.away(2, false), 0);
        due("it does not look", x.about(0, 2), 1);
        x.tick(4);
        due("one tick ahead of end", x.about(0, 2), 1);
        x.tick(1);
        due("at end", x.about(0, 2), 2);
        due("too late", x.away(1, false), 0);
        due("the old state held", x.wealth(0), 100);
    }

    private static void best() {
        PromiseChains x = row();
        int[][] wrong = {{-1, 1, 1}, {4, 1, 1}, {0, -1, 1}, {0, 4, 1}, {2, 2, 1}, {0, 1, 0}, {0, 1, -1}, {0, 1, 100001},
            {LOW, 1, 1}, {0, HIGH, 1}, {0, 1, HIGH}};
        for (int[] v : wrong) {
            due("wrong best", x.best(v[0], v[1], v[2]), BAD);
        }
        due("over three", x.best(0, 3, 100), 100);
        due("too much", x.best(0, 3, 101), NONE);
        due("backwards", x.best(3, 0, 7), 7);
        due("latest way", x.wayAt(0), 2);
        due("none: it stays", x.best(0, 3, 101), NONE);
        due("latest way stays", x.wayAt(0), 2);
        x.fee(1, 10, 0);
        x.fee(2, 10, 100);
        due("fees add up from the end", x.best(0, 3, 50), 75);
        due("the first pair is too poor", x.best(0, 3, 74), NONE);
        due("just enough", x.best(0, 3, 73), 100);
        due("a dearer way with room", x.pair(0, 3, 99, 0), 3);
        due("straight", x.best(0, 3, 72), 72);
        x.close(3, 0, 0);
        due("closing pairs are not of a way", x.best(0, 3, 72), 99);
        due("nothing moved", x.wealth(1), 200);
        x.promise(0, 1, 10);
        due("what is locked is not in the side", x.best(0, 1, 91), NONE);
        due("the rest is", x.best(0, 1, 90), 90);
        x = new PromiseChains();
        x.people(7);
        for (int i = 0; i < 6; i++) {
            x.pair(i + 1, i, 0, 100000);
        }
        due("six pairs, the most there may be", x.best(0, 6, 100000), 100000);
        due("its last", x.wayAt(5), 5);
        due("no seventh", x.wayAt(6), NONE);
    }

    private static void bestOfLikeOnes() {
        PromiseChains x = new PromiseChains();
        x.people(4);
        x.pair(0, 1, 50, 0);
        x.pair(1, 3, 50, 0);
        x.pair(0, 2, 50, 0);
        x.pair(2, 3, 50, 0);
        x.pair(2, 1, 50, 0);
        due("like ones", x.best(0, 3, 50), 50);
        due("the first by numbers", x.wayAt(0), 0);
        x.fee(1, 1, 0);
        due("the cheaper one", x.best(0, 3, 50), 50);
        due("goes over 2", x.wayAt(0), 2);
        x.fee(2, 2, 0);
        due("over 1 is cheaper", x.best(0, 3, 40), 41);
        due("it is over 1", x.wayAt(0), 0);
        due("1 has no room", x.best(0, 3, 50), NONE);
        x.people(4);
        x.pair(0, 1, 9, 9);
        x.pair(1, 2, 9, 9);
        x.pair(2, 3, 9, 9);
        x.pair(0, 2, 9, 9);
        due("fewer pairs of like ones", x.best(0, 3, 5), 5);
        due("first of two", x.wayAt(0), 3);
        due("second of two", x.wayAt(1), 2);
        due("no third", x.wayAt(2), NONE);
        x.fee(2, 4, 0);
        x.pair(1, 3, 9, 9);
        due("less is ahead of fewer", x.best(0, 3, 5), 5);
        due("over 1", x.wayAt(1), 4);
        x.pair(1, 3, 9, 9);
        x.pair(0, 1, 9, 9);
        due("told from the front", x.best(0, 3, 5), 5);
        due("front 0", x.wayAt(0), 0);
        due("then 4", x.wayAt(1), 4);
    }

    private static void wayAt() {
        PromiseChains x = row();
        x.best(0, 3, 1);
        int[] way = {0, 1, 2, NONE};
        for (int i = 0; i < 4; i++) {
            due("wayAt(" + i + ")", x.wayAt(i), way[i]);
        }
        for (int i : new int[] {LOW, -1, 6, 7, HIGH}) {
            due("wayAt(" + i + ")", x.wayAt(i), NONE);
        }
        x.promise(3, 1, 1);
        due("a promise's way is the latest", x.wayAt(0), 2);
        due("its second", x.wayAt(1), 1);
        due("its end", x.wayAt(2), NONE);
    }

    private static void promise() {
        PromiseChains x = row();
        int[][] wrong = {{-1, 1, 1}, {4, 1, 1}, {0, -1, 1}, {0, 4, 1}, {2, 2, 1}, {0, 1, 0}, {0, 1, 100001}, {LOW, 1, 1},
            {0, HIGH, 1}, {0, 1, LOW}};
        for (int[] v : wrong) {
            due("wrong promise", x.promise(v[0], v[1], v[2]), BAD);
        }
        x.fee(1, 1, 0);
        x.fee(2, 2, 0);
        due("promise", x.promise(0, 3, 10), 0);
        int[] sums = {13, 12, 10};
        for (int pair = 0; pair < 3; pair++) {
            due("locked", x.locked(pair, 0), sums[pair]);
            due("not in the side", x.side(pair, 0), 100 - sums[pair]);
            due("b's is whole", x.side(pair, 1), 100);
            due("nothing of b is locked", x.locked(pair, 1), 0);
            due("no state of it", x.about(pair, 3), 1);
        }
        due("three locks", x.count(3), 3);
        due("the other way", x.promise(3, 0, 10), 1);
        due("b pays", x.locked(2, 1), 13);
        due("b's least", x.locked(0, 1), 10);
        due("none has so much", x.promise(0, 3, 85), NO);
        due("the latest way stays", x.wayAt(0), 2);
        x.away(0, true);
        due("who pays is away", x.promise(0, 3, 1), NO);
        due("the latest way stays too", x.wayAt(0), 2);
        due("wrong ahead of no", x.promise(0, 0, 1), BAD);
        due("to who is away", x.promise(3, 0, 1), 2);
    }

    private static void promiseFull() {
        PromiseChains x = row();
        for (int i = 0; i < 40; i++) {
            due("promise " + i, x.promise(i % 2, 3, 1), i);
            x.tick(9);
        }
        x.best(3, 2, 5);
        due("full", x.promise(0, 3, 1), FULL);
        due("full: latest way stays", x.wayAt(0), 2);
        due("wrong ahead of full", x.promise(0, 0, 1), BAD);
        due("no ahead of full", x.promise(0, 3, 101), NO);
        x.away(0, true);
        due("away ahead of full", x.promise(0, 3, 1), NO);
        due("forty", x.count(2), 40);
        due("none locked", x.count(3), 0);
        due("the fortieth", x.promiseAt(39, 6), 1);
        due("no more", x.promiseAt(40, 0), BAD);
        x.people(4);
        x.pair(0, 1, 5, 5);
        due("anew", x.promise(0, 1, 1), 0);
    }

    private static void tell() {
        PromiseChains x = row();
        x.fee(1, 1, 0);
        x.fee(2, 2, 0);
        for (int promise : new int[] {LOW, -1, 0, HIGH}) {
            due("no such promise", x.tell(promise), BAD);
        }
        x.promise(0, 3, 10);
        x.promise(0, 2, 10);
        due("all three", x.tell(0), 3);
        due("told already", x.tell(0), NO);
        due("the other one is not told", x.promiseAt(1, 5), 0);
        due("0 paid 13, 11 are locked", x.side(0, 0), 76);
        due("1 got 13", x.side(0, 1), 113);
        due("1 paid 12", x.side(1, 0), 78);
        due("3 got 10", x.side(2, 1), 110);
        due("wealth counts locks", x.wealth(0), 87);
        due("1's fee", x.wealth(1), 201);
        due("2's fee", x.wealth(2), 202);
        x.tick(6);
        due("not open", x.tell(1), NO);
        due("not told", x.promiseAt(1, 5), 0);
        x.promise(0, 3, 10);
        x.tick(2);
        due("one below the last clock", x.tell(2), 3);
        x.promise(0, 3, 10);
        x.tick(3);
        due("the last ran out, open still", x.tell(3), 0);
        due("told", x.promiseAt(3, 5), 1);
        due("nobody ahead learns it", x.tick(9), 2);
        due("broken", x.promiseAt(3, 0), 2);
    }

    private static void tick() {
        PromiseChains x = row();
        for (int n : new int[] {LOW, -1, 0, 61, HIGH}) {
            due("wrong tick", x.tick(n), BAD);
        }
        due("no time has gone", x.count(4), 0);
        due("tick(60)", x.tick(60), 0);
        due("sixty", x.count(4), 60);
        x.promise(0, 3, 10);
        x.promise(1, 3, 20);
        due("clocks 63, 66, 69; 63, 66", x.tick(2), 0);
        due("at 63", x.tick(1), 2);
        due("given back", x.side(2, 0), 100);
        due("nothing locked of it", x.locked(2, 0), 0);
        due("the others are locked", x.locked(1, 0), 30);
        due("at 66, 69", x.tick(6), 3);
        due("all given back", x.side(0, 0), 100);
        due("what ran out makes no state", x.about(0, 3), 1);
        x.promise(0, 3, 10);
        x.away(2, true);
        x.tell(2);
        due("3 got it", x.side(2, 1), 110);
        x.tick(5);
        due("torn is open while locked", x.promiseAt(2, 0), 0);
        due("2 is late", x.tick(1), 1);
        due("1's waits", x.tick(3), 1);
        due("torn", x.promiseAt(2, 0), 3);
        due("2 loses by it", x.wealth(2), 190);
    }

    private static void promiseAt() {
        PromiseChains x = row();
        due("none yet", x.promiseAt(0, 0), BAD);
        x.fee(1, 4, 0);
        x.promise(0, 2, 10);
        int[] at = {0, 10, 14, 2, 0, 0, 0};
        for (int what = 0; what < 7; what++) {
            due("promiseAt(0, " + what + ")", x.promiseAt(0, what), at[what]);
        }
        for (int what : new int[] {LOW, -1, 7, HIGH}) {
            due("wrong what", x.promiseAt(0, what), BAD);
        }
        for (int promise : new int[] {LOW, -1, 1, HIGH}) {
            due("wrong promise", x.promiseAt(promise, 0), BAD);
        }
        x.away(1, true);
        x.tell(0);
        due("one kept", x.promiseAt(0, 4), 1);
        due("told", x.promiseAt(0, 5), 1);
        due("open", x.promiseAt(0, 0), 0);
        x.away(1, false);
        due("two kept", x.promiseAt(0, 4), 2);
        due("kept", x.promiseAt(0, 0), 1);
        x.promise(3, 2, 5);
        due("3 pays", x.promiseAt(1, 6), 3);
        due("one lock", x.promiseAt(1, 3), 1);
        x.tick(3);
        due("broken", x.promiseAt(1, 0), 2);
        due("had one lock", x.promiseAt(1, 3), 1);
        due("carried 5", x.promiseAt(1, 2), 5);
    }

    private static void side() {
        PromiseChains x = new PromiseChains();
        x.pair(0, 1, 7, 9);
        due("side of a", x.side(0, 0), 7);
        due("side of b", x.side(0, 1), 9);
        for (int v : new int[] {LOW, -1, 2, HIGH}) {
            due("wrong which", x.side(0, v), BAD);
            due("wrong pair", x.side(v, 0), BAD);
        }
        due("no pair 1", x.side(1, 0), BAD);
        x.promise(1, 0, 4);
        due("locked away", x.side(0, 1), 5);
        x.tell(0);
        due("got", x.side(0, 0), 11);
        x.close(0, 0, 1);
        due("closing", x.side(0, 0), 11);
        x.tick(5);
        due("closed a", x.side(0, 0), 0);
        due("closed b", x.side(0, 1), 0);
    }

    private static void locked() {
        PromiseChains x = new PromiseChains();
        x.pair(0, 1, 7, 9);
        x.promise(0, 1, 2);
        x.promise(0, 1, 3);
        x.promise(1, 0, 9);
        due("two locks of a", x.locked(0, 0), 5);
        due("one of b", x.locked(0, 1), 9);
        for (int v : new int[] {LOW, -1, 2, HIGH}) {
            due("wrong which", x.locked(0, v), BAD);
            due("wrong pair", x.locked(v, 0), BAD);
        }
        due("no pair 1", x.locked(1, 0), BAD);
        x.tell(1);
        due("one is kept", x.locked(0, 0), 2);
        x.tick(3);
        due("run out a", x.locked(0, 0), 0);
        due("run out b", x.locked(0, 1), 0);
    }

    private static void about() {
        PromiseChains x = row();
        x.pair(3, 0, 0, 0);
        int[] at = {3, 0, 0, 1, NONE};
        for (int what = 0; what < 5; what++) {
            due("about(3, " + what + ")", x.about(3, what), at[what]);
        }
        for (int v : new int[] {LOW, -1, 5, HIGH}) {
            due("wrong what", x.about(0, v), BAD);
            due("wrong pair", x.about(v, 0), BAD);
        }
        due("no pair 4", x.about(4, 0), BAD);
        x.tick(7);
        x.close(3, 3, 0);
        due("closing", x.about(3, 2), 1);
        due("end", x.about(3, 4), 12);
        x.tick(5);
        due("closed", x.about(3, 2), 2);
        due("no end", x.about(3, 4), NONE);
        due("its states stay", x.about(3, 3), 1);
        due("its people stay", x.about(3, 0), 3);
    }

    private static void stateAt() {
        PromiseChains x = new PromiseChains();
        x.pair(0, 1, 50, 40);
        due("as it came, a", x.stateAt(0, 0, 0), 50);
        due("as it came, b", x.stateAt(0, 0, 1), 40);
        due("no state 1", x.stateAt(0, 1, 0), NONE);
        due("no state 64", x.stateAt(0, 64, 0), NONE);
        due("far off", x.stateAt(0, HIGH, 0), NONE);
        due("below 0", x.stateAt(0, -1, 0), BAD);
        due("far below", x.stateAt(0, LOW, 0), BAD);
        for (int v : new int[] {LOW, -1, 2, HIGH}) {
            due("wrong which", x.stateAt(0, 0, v), BAD);
            due("wrong which ahead of none", x.stateAt(0, 9, v), BAD);
            due("wrong pair", x.stateAt(v, 0, 0), BAD);
        }
        x.promise(0, 1, 5);
        x.promise(0, 1, 6);
        x.promise(1, 0, 10);
        x.tell(0);
        due("6 locked count for a", x.stateAt(0, 1, 0), 45);
        due("10 locked count for b", x.stateAt(0, 1, 1), 45);
        x.tell(2);
        due("state 2, a", x.stateAt(0, 2, 0), 55);
        due("state 2, b", x.stateAt(0, 2, 1), 35);
        x.tick(3);
        due("what ran out is no state", x.stateAt(0, 3, 0), NONE);
        x.close(0, 0, 2);
        x.tick(5);
        due("states of a closed pair stay", x.stateAt(0, 0, 0), 50);
    }

    private static void statesAreSixtyFour() {
        PromiseChains x = triangle(50, 50, 6, 0, 50, 50);
        for (int i = 0; i < 31; i++) {
            payRound(x, i);
            due("ring " + i, x.even(), 6);
            due("states", x.about(0, 3), 3 + 2 * i);
        }
        payRound(x, 31);
        due("sixty-four", x.about(0, 3), 64);
        due("the last one", x.stateAt(0, 63, 0), 44);
        due("ring", x.even(), 6);
        due("sixty-four still", x.about(0, 3), 64);
        due("a ring became the last one", x.stateAt(0, 63, 0), 50);
        due("no more", x.stateAt(0, 64, 0), NONE);
        due("the one ahead stays", x.stateAt(0, 62, 0), 51);
        due("the first stays", x.stateAt(0, 1, 0), 57);
        payRound(x, 32);
        due("a payment became the last one", x.stateAt(0, 63, 0), 57);
        due("its b", x.stateAt(0, 63, 1), 43);
        due("no state 64 to close by", x.close(0, 0, 64), BAD);
        due("the last one is the latest", x.close(0, 0, 63), 1);
        due("sixty-two is old", x.close(2, 2, 62), 2);
        x.tick(5);
        due("closed by it", x.wealth(0), 57 + 100);
    }

    /** 1 pays 2, or 2 pays 1, over 0, as the pair between them never has 7 on the side that would pay. */
    private static void payRound(PromiseChains x, int i) {
        int s = 1 + i % 2;
        due("payment " + i, x.promise(s, 3 - s, 7), i);
        due("kept " + i, x.tell(i), 2);
    }

    private static void roundsOfKeeping() {
        PromiseChains x = new PromiseChains();
        x.people(4);
        x.pair(0, 1, 100, 0);
        x.pair(1, 2, 100, 0);
        x.pair(2, 3, 100, 0);
        x.promise(0, 3, 1);
        x.pair(1, 3, 100, 0);
        x.promise(0, 3, 2);
        x.away(3, true);
        x.tell(0);
        x.tell(1);
        due("5 locks in 3 rounds", x.away(3, false), 5);
        due("the nearer one came first to pair 0", x.stateAt(0, 1, 1), 2);
        due("then the other", x.stateAt(0, 2, 1), 3);
    }

    private static void close() {
        PromiseChains x = row();
        int[][] wrong = {{-1, 0, 0}, {3, 0, 0}, {0, -1, 0}, {0, 4, 0}, {0, 2, 0}, {1, 0, 0}, {0, 0, -1}, {0, 0, 1},
            {LOW, 0, 0}, {0, HIGH, 0}, {0, 0, HIGH}, {0, 0, 64}};
        for (int[] v : wrong) {
            due("wrong close", x.close(v[0], v[1], v[2]), BAD);
        }
        x.away(0, true);
        due("who closes is away", x.close(0, 0, 0), NO);
        due("the other one may", x.close(0, 1, 0), 1);
        due("closing", x.close(0, 1, 0), NO);
        due("wrong ahead of no", x.close(0, 1, 1), BAD);
        x.promise(1, 2, 3);
        due("has a lock of a", x.close(1, 1, 0), NO);
        x.tick(3);
        x.promise(2, 1, 3);
        due("has a lock of b", x.close(1, 1, 0), NO);
        x.tick(3);
        due("has none", x.close(1, 1, 0), 1);
        due("the first one closed", x.about(0, 2), 2);
        due("its side is cash", x.wealth(0), 100);
        due("closed", x.close(0, 1, 0), NO);
        due("no way over it", x.best(0, 1, 1), NONE);
    }

    private static void closeByOldState() {
        PromiseChains x = row();
        x.promise(0, 1, 10);
        x.tell(0);
        x.promise(1, 0, 30);
        x.tell(1);
        due("the other one is there", x.close(0, 1, 1), 2);
        due("0 gets all", x.wealth(0), 200);
        due("1 has the other pair", x.wealth(1), 100);
        due("closed at once", x.about(0, 2), 2);
        due("no sides", x.side(0, 0), 0);
        due("no end", x.about(0, 4), NONE);
        x = row();
        x.promise(0, 1, 10);
        x.tell(0);
        x.promise(1, 0, 10);
        x.tell(1);
        due("an old state is one though it is alike", x.close(0, 0, 0), 2);
        due("1 gets all", x.wealth(1), 300);
        x = row();
        x.promise(0, 1, 10);
        x.tell(0);
        due("by the latest one", x.close(0, 0, 1), 1);
        due("sides stay", x.side(0, 1), 110);
        x.tick(5);
        due("0 has 90", x.wealth(0), 90);
        due("1 has 110 and 100", x.wealth(1), 210);
        x = row();
        x.promise(1, 0, 10);
        x.tell(0);
        x.away(0, true);
        due("b closes by an old one, unseen", x.close(0, 1, 0), 1);
        x.tick(5);
        due("it holds", x.wealth(0), 100);
        due("for b too", x.wealth(1), 200);
    }

    private static void wealth() {
        PromiseChains x = row();
        due("0", x.wealth(0), 100);
        due("1 has two sides", x.wealth(1), 200);
        for (int v : new int[] {LOW, -1, 4, HIGH}) {
            due("wrong person", x.wealth(v), BAD);
        }
        x.promise(1, 3, 40);
        due("locks count", x.wealth(1), 200);
        due("nothing is got yet", x.wealth(3), 100);
        x.tell(0);
        due("got", x.wealth(3), 140);
        x.close(0, 1, 0);
        due("closing counts", x.wealth(1), 160);
        x.tick(5);
        due("cash counts", x.wealth(1), 160);
    }

    private static void off() {
        PromiseChains x = new PromiseChains();
        x.people(3);
        x.pair(0, 1, 10, 30);
        x.pair(1, 2, 25, 5);
        due("both ways", x.off(), 40);
        x.promise(1, 2, 25);
        due("locked is not in the side", x.off(), 25);
        x.close(0, 1, 0);
        due("closing is not open", x.off(), 5);
        x.tick(3);
        due("given back", x.off(), 20);
        x.tick(5);
        due("closed is not open", x.off(), 20);
    }

    private static void ring() {
        PromiseChains x = triangle(30, 10, 20, 10, 40, 0);
        due("off was", x.off(), 70);
        due("off with it", x.ring(0, 0), 30);
        due("m", x.ring(1, 0), 10);
        due("three pairs", x.ring(2, 0), 3);
        for (int i = 0; i < 3; i++) {
            due("row", x.ring(3, i), i);
            due("from a", x.ring(4, i), 0);
        }
        for (int i : new int[] {LOW, -1, 3, 7, HIGH}) {
            due("not so many", x.ring(3, i), NONE);
            due("not so many", x.ring(4, i), NONE);
        }
        due("i is not asked", x.ring(1, 9), 10);
        for (int what : new int[] {LOW, -1, 5, HIGH}) {
            due("wrong what", x.ring(what, 0), BAD);
        }
        x = triangle(10, 30, 10, 20, 0, 40);
        due("from b", x.ring(4, 0), 1);
        due("turned row: 0", x.ring(3, 0), 0);
        due("turned row: 2", x.ring(3, 1), 2);
        due("turned row: 1", x.ring(3, 2), 1);
        x.away(0, true);
        x.away(1, true);
        due("who is away counts", x.ring(1, 0), 10);
        x.promise(2, 1, 1);
        due("locks keep a pair out", x.ring(0, 0), NONE);
        due("wrong ahead of none", x.ring(5, 0), BAD);
        x.tick(9);
        due("they ran out", x.ring(0, 0), 30);
        x.close(1, 2, 0);
        due("closing keeps it out", x.ring(0, 0), NONE);
        x = triangle(10, 10, 10, 10, 10, 10);
        due("even already", x.ring(0, 0), NONE);
        x = triangle(1, 0, 1, 0, 1, 0);
        due("no less by it", x.ring(0, 0), NONE);
        x = triangle(3, 0, 3, 0, 3, 0);
        due("the least m of like ones", x.ring(1, 0), 1);
        x = triangle(3, 0, 3, 0, 0, 3);
        due("a side of 0", x.ring(0, 0), NONE);
        x = new PromiseChains();
        x.pair(0, 1, 50, 0);
        x.pair(1, 0, 50, 0);
        due("two pairs are no ring", x.ring(0, 0), NONE);
    }

    private static void ringOfLikeOnes() {
        PromiseChains x = new PromiseChains();
        x.people(4);
        x.pair(0, 1, 4, 0);
        x.pair(1, 2, 4, 0);
        x.pair(2, 0, 4, 0);
        x.pair(2, 3, 4, 0);
        x.pair(3, 0, 4, 0);
        due("over four is less off", x.ring(2, 0), 4);
        due("off with it", x.ring(0, 0), 4);
        x = new PromiseChains();
        x.people(4);
        x.pair(0, 1, 4, 0);
        x.pair(1, 2, 4, 0);
        x.pair(2, 0, 4, 0);
        x.pair(2, 3, 2, 2);
        x.pair(3, 0, 8, 0);
        due("like off, like m: the fewest pairs", x.ring(2, 0), 3);
        due("off of both", x.ring(0, 0), 8);
        x = new PromiseChains();
        x.people(3);
        x.pair(0, 1, 4, 0);
        x.pair(1, 2, 4, 0);
        x.pair(1, 2, 4, 0);
        x.pair(2, 0, 4, 0);
        due("first by the row", x.ring(3, 1), 1);
        x = new PromiseChains();
        x.people(7);
        for (int i = 0; i < 7; i++) {
            x.pair(i, (i + 1) % 7, 6, 0);
        }
        due("seven pairs", x.ring(2, 0), 7);
        due("the seventh", x.ring(3, 6), 6);
        due("all even", x.even(), 3);
        due("none off", x.off(), 0);
    }

    private static void ringIsTrimmed() {
        PromiseChains x = triangle(100, 0, 100, 0, 5, 0);
        due("no side below 0", x.ring(1, 0), 5);
        due("off with it: 90 + 90 + 5", x.ring(0, 0), 185);
        x = triangle(100000, 0, 100000, 0, 100000, 0);
        due("half of the greatest", x.even(), 50000);
        due("all even", x.off(), 0);
    }

    private static void even() {
        PromiseChains x = triangle(30, 10, 20, 10, 40, 0);
        x.best(0, 1, 1);
        x.tries(5);
        due("learnt ahead", x.learnt(0, 0), 5);
        due("even", x.even(), 10);
        int[] sides = {20, 20, 10, 20, 30, 10};
        for (int i = 0; i < 6; i++) {
            due("side " + i, x.side(i / 2, i % 2), sides[i]);
            due("state of it", x.stateAt(i / 2, 1, i % 2), sides[i]);
        }
        due("two states", x.about(0, 3), 2);
        due("nothing is learnt any more", x.learnt(0, 0), 0);
        due("off", x.off(), 30);
        due("wealth is what it was", x.wealth(0), 30);
        due("no more", x.even(), NO);
        due("states stay", x.about(0, 3), 2);
        x.promise(0, 1, 10);
        due("locked", x.even(), NO);
        due("still told", x.count(3), 1);
    }

    private static void tries() {
        PromiseChains x = row();
        for (int y : new int[] {LOW, -1, 0, 200001, HIGH}) {
            due("wrong ahead of no", x.tries(y), BAD);
        }
        due("no way yet", x.tries(1), NO);
        x.best(0, 3, 1);
        due("all", x.tries(100), 3);
        due("none", x.tries(101), 0);
        due("the most", x.tries(200000), 0);
        x.promise(1, 2, 30);
        x.best(0, 3, 1);
        due("over one", x.tries(71), 1);
        due("over three", x.tries(70), 3);
        x.tick(3);
        x.close(2, 2, 0);
        due("closing is not open", x.tries(1), NO);
        due("the way is told", x.wayAt(2), 2);
        x.tick(5);
        due("closed is not open", x.tries(1), NO);
        x.best(2, 0, 5);
        due("another way", x.tries(1), 2);
        x.promise(1, 0, 5);
        due("a promise's way", x.tries(96), 0);
        due("its side without the lock", x.tries(95), 1);
    }

    private static void learnt() {
        PromiseChains x = new PromiseChains();
        x.people(3);
        x.pair(0, 1, 60, 40);
        x.pair(2, 1, 30, 20);
        for (int v : new int[] {LOW, -1, 2, HIGH}) {
            due("wrong what", x.learnt(0, v), BAD);
            due("wrong pair", x.learnt(v, 0), BAD);
        }
        due("least at first", x.learnt(0, 0), 0);
        due("greatest at first", x.learnt(0, 1), 100);
        x.best(0, 2, 1);
        x.tries(20);
        due("a pays 20: at least 20", x.learnt(0, 0), 20);
        due("the greatest stays", x.learnt(0, 1), 100);
        due("b pays 20: at most 30", x.learnt(1, 1), 30);
        due("the least stays", x.learnt(1, 0), 0);
        x.tries(21);
        due("b does not pay 21: at least 30", x.learnt(1, 0), 30);
        due("known", x.learnt(1, 1), 30);
        due("a pays 21", x.learnt(0, 0), 21);
        x.tries(61);
        due("a does not pay 61: at most 60", x.learnt(0, 1), 60);
        x.tries(150);
        due("what is known stays", x.learnt(0, 1), 60);
        x.tries(3);
        due("a lesser try takes nothing back", x.learnt(0, 0), 21);
        x.tries(60);
        due("known", x.learnt(0, 0), 60);
        x.promise(0, 1, 10);
        due("locked: anew", x.learnt(0, 0), 0);
        due("both together", x.learnt(0, 1), 90);
        due("the other pair's is kept", x.learnt(1, 0), 30);
        x.tries(10);
        x.tick(3);
        due("run out: anew", x.learnt(0, 1), 100);
        due("run out: least", x.learnt(0, 0), 0);
        x.promise(0, 1, 10);
        x.tries(10);
        x.tell(1);
        due("kept: anew", x.learnt(0, 0), 0);
        due("kept: both", x.learnt(0, 1), 100);
        x.close(0, 0, 1);
        due("closing changes no side", x.learnt(0, 1), 100);
        x.tick(5);
        due("closed", x.learnt(0, 1), 0);
        x.best(1, 2, 1);
        x.tries(200000);
        due("far too much for b: none is known new", x.learnt(1, 0), 30);
        due("greatest", x.learnt(1, 1), 30);
    }

    private static void count() {
        PromiseChains x = row();
        x.promise(0, 3, 1);
        x.promise(0, 1, 1);
        x.tell(1);
        x.away(2, true);
        x.gap(9);
        x.look(8);
        x.tick(2);
        int[] counts = {4, 3, 2, 3, 2, 9, 8, 1};
        for (int what = 0; what < 8; what++) {
            due("count(" + what + ")", x.count(what), counts[what]);
        }
        for (int what : new int[] {LOW, -1, 8, HIGH}) {
            due("wrong what", x.count(what), BAD);
        }
    }

    private static void digest() {
        PromiseChains x = new PromiseChains();
        long h = 233;
        for (int v : new int[] {2, 0, 0, 0, 0, 3, 5, 0, 0, 0}) {
            h = 31 * h + v;
        }
        due("digest of a new one", x.digest(), h);
        x.pair(0, 1, 8, 4);
        x.promise(0, 1, 3);
        h = 233;
        for (int v : new int[] {2, 1, 1, 1, 0, 3, 5, 0, 8, 4, 0, 1, 0, 1, NONE, 5, 4, 3, 0, 0, 9, 0, 3, 3, 1, 0, 0, 0}) {
            h = 31 * h + v;
        }
        due("digest", x.digest(), h);
    }

    private static void wrongNumbersFirst() {
        PromiseChains x = row();
        x.away(0, true);
        due("away: wrong ahead of no", x.away(4, true), BAD);
        for (int i = 0; i < 9; i++) {
            x.pair(0, 1, 1, 1);
        }
        due("pair: wrong ahead of full", x.pair(0, 1, 1, -1), BAD);
        due("pair: full", x.pair(0, 1, 1, 1), FULL);
    }

    private static void refusedChangesNothing() {
        PromiseChains x = row();
        x.promise(0, 3, 10);
        x.best(2, 3, 1);
        x.tries(5);
        x.away(2, true);
        long before = x.digest();
        int[] refused = {x.people(1), x.people(8), x.pair(0, 0, 1, 1), x.fee(0, 1, 101), x.fee(0, 101, 1), x.gap(0),
            x.look(51), x.away(2, true), x.away(0, false), x.best(0, 3, 0), x.promise(2, 3, 1), x.promise(0, 3, 101),
            x.tell(1), x.tick(0), x.tick(61), x.close(0, 0, 0), x.close(0, 2, 0), x.even(), x.tries(0), x.ring(9, 0)};
        for (int i = 0; i < refused.length; i++) {
            due("refused " + i, refused[i] < NONE ? 1 : 0, 1);
        }
        due("nothing changed", x.digest(), before);
        due("nor the latest way", x.wayAt(0), 2);
        due("nor fees", x.best(1, 3, 5), 5);
    }
}
