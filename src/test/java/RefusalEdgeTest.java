import java.util.function.ToIntFunction;

/** "Refused, changing nothing, the first of: BAD -2 a number is not as told; NO -3 as told; FULL -4." */
public final class RefusalEdgeTest {
    private static final int NONE = Scenes.NONE, BAD = Scenes.BAD, NO = Scenes.NO, FULL = Scenes.FULL;
    private static final int LOW = Scenes.LOW, HIGH = Scenes.HIGH;
    private static final int TOLD_AND_KEPT = 0, BROKEN = 1, TOLD_AND_OPEN = 2, OPEN = 3;
    private static final Check check = new Check();

    public static void main(String[] args) {
        busyIsAsTold();
        badChangesNothing();
        badOfPeopleAndPairs();
        badOfWaysAndPromises();
        badOfClosings();
        noChangesNothing();
        noOfATry();
        fullOfPairs();
        fullOfPromises();
        noneChangesNothing();
        askingChangesNothing();
        badAheadOfNo();
        badAheadOfFull();
        noAheadOfFull();
        badAheadOfNone();
        refusedAtFirst();
        check.end();
    }

    /** Five people of whom 2 and 4 are away, pairs of all kinds, promises of all kinds, something learnt. */
    private static PromiseChains busy() {
        PromiseChains x = new PromiseChains();
        x.people(5);
        x.gap(4);
        x.look(7);
        x.pair(0, 1, 100, 100);
        x.pair(1, 2, 100, 100);
        x.pair(2, 3, 100, 100);
        x.pair(3, 0, 50, 0);
        x.pair(0, 2, 30, 30);
        x.pair(1, 3, 40, 40);
        x.fee(1, 2, 10);
        x.fee(2, 3, 20);
        x.close(5, 1, 0);
        Scenes.pay(x, 0, 1, 5);
        x.promise(0, 1, 1);
        x.tick(7);
        x.close(4, 0, 0);
        x.promise(0, 3, 10);
        x.away(2, true);
        x.tell(TOLD_AND_OPEN);
        x.promise(1, 0, 4);
        x.away(4, true);
        x.best(3, 0, 5);
        x.tries(20);
        return x;
    }

    private static void busyIsAsTold() {
        PromiseChains x = busy();
        int[] is = {1, 2, 0, 0};
        for (int promise = 0; promise < is.length; promise++) {
            check.due("promise " + promise, x.promiseAt(promise, 0), is[promise]);
        }
        int[] phases = {0, 0, 0, 0, 1, 2};
        for (int pair = 0; pair < phases.length; pair++) {
            check.due("pair " + pair, x.about(pair, 2), phases[pair]);
        }
        check.due("locks", x.count(3), 3);
        check.due("learnt", x.learnt(3, 0), 20);
        check.due("latest way", Scenes.way(x), "3");
        check.due("away", x.count(7), 2);
    }

    private static void refused(String what, ToIntFunction<PromiseChains> call, int want) {
        PromiseChains x = busy();
        PromiseChains y = busy();
        check.due(what, call.applyAsInt(x), want);
        check.due(what + ": all is as it was", Scenes.seen(x), Scenes.seen(y));
        goOn(x);
        goOn(y);
        check.due(what + ": and goes on as it did", Scenes.seen(x), Scenes.seen(y));
    }

    /** Calls that show what is not told by itself: fees, clocks, words, who closes and by what. */
    private static void goOn(PromiseChains x) {
        x.tries(30);
        x.promise(3, 1, 7);
        x.tell(OPEN);
        x.tick(2);
        x.away(2, false);
        x.promise(0, 3, 6);
        x.promise(1, 3, 6);
        x.tick(4);
        x.pair(0, 1, 3, 3);
        x.away(4, false);
        x.tick(9);
    }

    /** "changing nothing .. BAD -2 a number is not as told": of calls with one number. */
    private static void badChangesNothing() {
        for (int v : new int[] {LOW, -1, 0, 1, 8, HIGH}) {
            refused("people(" + v + ")", x -> x.people(v), BAD);
        }
        for (int v : new int[] {LOW, -1, 0, 51, HIGH}) {
            refused("gap(" + v + ")", x -> x.gap(v), BAD);
            refused("look(" + v + ")", x -> x.look(v), BAD);
        }
        for (int v : new int[] {LOW, -1, 5, HIGH}) {
            refused("away(" + v + ", true)", x -> x.away(v, true), BAD);
            refused("away(" + v + ", false)", x -> x.away(v, false), BAD);
            refused("wealth(" + v + ")", x -> x.wealth(v), BAD);
        }
        for (int v : new int[] {LOW, -1, 4, 40, HIGH}) {
            refused("tell(" + v + ")", x -> x.tell(v), BAD);
        }
        for (int v : new int[] {LOW, -1, 0, 61, HIGH}) {
            refused("tick(" + v + ")", x -> x.tick(v), BAD);
        }
        for (int v : new int[] {LOW, -1, 0, 200001, HIGH}) {
            refused("tries(" + v + ")", x -> x.tries(v), BAD);
        }
        for (int v : new int[] {LOW, -1, 8, HIGH}) {
            refused("count(" + v + ")", x -> x.count(v), BAD);
            refused("ring(" + v + ", 0)", x -> x.ring(v, 0), BAD);
        }
    }

    private static void badOfPeopleAndPairs() {
        for (int v : new int[] {LOW, -1, 5, HIGH}) {
            refused("pair(" + v + ", 1, 1, 1)", x -> x.pair(v, 1, 1, 1), BAD);
            refused("pair(1, " + v + ", 1, 1)", x -> x.pair(1, v, 1, 1), BAD);
            refused("fee(" + v + ", 1, 1)", x -> x.fee(v, 1, 1), BAD);
        }
        for (int v : new int[] {LOW, -1, 100001, HIGH}) {
            refused("pair(0, 1, " + v + ", 1)", x -> x.pair(0, 1, v, 1), BAD);
            refused("pair(0, 1, 1, " + v + ")", x -> x.pair(0, 1, 1, v), BAD);
        }
        for (int v = 0; v < 5; v++) {
            int person = v;
            refused("pair with itself " + v, x -> x.pair(person, person, 1, 1), BAD);
        }
        for (int v : new int[] {LOW, -1, 101, HIGH}) {
            refused("fee(1, " + v + ", 1)", x -> x.fee(1, v, 1), BAD);
            refused("fee(2, 1, " + v + ")", x -> x.fee(2, 1, v), BAD);
        }
    }

    private static void badOfWaysAndPromises() {
        for (int v : new int[] {LOW, -1, 5, HIGH}) {
            refused("best(" + v + ", 1, 1)", x -> x.best(v, 1, 1), BAD);
            refused("best(1, " + v + ", 1)", x -> x.best(1, v, 1), BAD);
            refused("promise(" + v + ", 1, 1)", x -> x.promise(v, 1, 1), BAD);
            refused("promise(1, " + v + ", 1)", x -> x.promise(1, v, 1), BAD);
        }
        for (int v : new int[] {LOW, -1, 0, 100001, HIGH}) {
            refused("best(0, 1, " + v + ")", x -> x.best(0, 1, v), BAD);
            refused("promise(0, 1, " + v + ")", x -> x.promise(0, 1, v), BAD);
        }
        for (int v = 0; v < 5; v++) {
            int person = v;
            refused("best to oneself " + v, x -> x.best(person, person, 1), BAD);
            refused("promise to oneself " + v, x -> x.promise(person, person, 1), BAD);
        }
        for (int v : new int[] {LOW, -1, 7, HIGH}) {
            refused("promiseAt(0, " + v + ")", x -> x.promiseAt(0, v), BAD);
            refused("promiseAt(" + v + ", 0)", x -> x.promiseAt(v, 0), BAD);
        }
    }

    private static void badOfClosings() {
        for (int v : new int[] {LOW, -1, 6, 12, HIGH}) {
            refused("close(" + v + ", 0, 0)", x -> x.close(v, 0, 0), BAD);
            refused("close(3, " + v + ", 0)", x -> x.close(3, v, 0), BAD);
            refused("close(3, 3, " + v + ")", x -> x.close(3, 3, v), BAD);
            refused("side(" + v + ", 0)", x -> x.side(v, 0), BAD);
            refused("locked(" + v + ", 0)", x -> x.locked(v, 0), BAD);
            refused("about(" + v + ", 0)", x -> x.about(v, 0), BAD);
            refused("stateAt(" + v + ", 0, 0)", x -> x.stateAt(v, 0, 0), BAD);
            refused("learnt(" + v + ", 0)", x -> x.learnt(v, 0), BAD);
            refused("side(0, " + v + ")", x -> x.side(0, v), BAD);
            refused("locked(0, " + v + ")", x -> x.locked(0, v), BAD);
            refused("about(0, " + v + ")", x -> x.about(0, v), BAD);
            refused("stateAt(0, 0, " + v + ")", x -> x.stateAt(0, 0, v), BAD);
            refused("learnt(0, " + v + ")", x -> x.learnt(0, v), BAD);
        }
        refused("close by who is not of it", x -> x.close(3, 1, 0), BAD);
        refused("close by who is not of it and away", x -> x.close(3, 2, 0), BAD);
        refused("no such state", x -> x.close(3, 3, 1), BAD);
        refused("no such state of one that has two", x -> x.close(2, 3, 2), BAD);
        refused("no state below 0", x -> x.stateAt(0, -1, 0), BAD);
    }

    /** "changing nothing .. NO -3 as told". */
    private static void noChangesNothing() {
        refused("is away", x -> x.away(2, true), NO);
        refused("is there", x -> x.away(0, false), NO);
        refused("no way", x -> x.promise(0, 4, 1), NO);
        refused("no room", x -> x.promise(0, 3, 100), NO);
        refused("s is away", x -> x.promise(2, 3, 1), NO);
        refused("told and kept", x -> x.tell(TOLD_AND_KEPT), NO);
        refused("told and open", x -> x.tell(TOLD_AND_OPEN), NO);
        refused("broken", x -> x.tell(BROKEN), NO);
        refused("closing", x -> x.close(4, 0, 0), NO);
        refused("closed", x -> x.close(5, 1, 0), NO);
        refused("has locks of a and b", x -> x.close(0, 0, 0), NO);
        refused("has a lock of a", x -> x.close(1, 1, 0), NO);
        refused("who closes is away", x -> x.close(2, 2, 0), NO);
        refused("no ring", x -> x.even(), NO);
    }

    /** tries: "NO", with a latest way that is not open any more. */
    private static void noOfATry() {
        PromiseChains x = busy();
        x.close(3, 0, 0);
        String before = Scenes.seen(x);
        check.due("a closing pair", x.tries(5), NO);
        check.due("nothing is learnt", Scenes.seen(x), before);
        check.due("learnt is as it was", x.learnt(3, 0), 20);
    }

    /** "changing nothing .. FULL -4": of pairs. */
    private static void fullOfPairs() {
        PromiseChains x = busy();
        for (int i = 6; i < 12; i++) {
            x.pair(0, 4, i, i);
        }
        String before = Scenes.seen(x);
        check.due("full", x.pair(0, 1, 5, 5), FULL);
        check.due("nothing changed", Scenes.seen(x), before);
    }

    /** "changing nothing .. FULL -4": of promises. */
    private static void fullOfPromises() {
        PromiseChains x = busy();
        for (int i = 4; i < 40; i++) {
            check.due("promise " + i, x.promise(3, 0, 1), i);
        }
        x.best(0, 1, 3);
        String before = Scenes.seen(x);
        check.due("full", x.promise(3, 0, 1), FULL);
        check.due("nothing changed, not even the latest way", Scenes.seen(x), before);
    }

    /** best: "NONE: there is none (the latest WAY stays)". */
    private static void noneChangesNothing() {
        refused("no way", x -> x.best(0, 4, 1), NONE);
        refused("no room", x -> x.best(0, 3, 100), NONE);
        refused("no such place", x -> x.wayAt(1), NONE);
        refused("no such state", x -> x.stateAt(0, 2, 0), NONE);
        refused("no ring", x -> x.ring(0, 0), NONE);
    }

    /** What is asked alone changes nothing. */
    private static void askingChangesNothing() {
        refused("count", x -> x.count(3), 3);
        refused("wealth", x -> x.wealth(4), 0);
        refused("wayAt", x -> x.wayAt(0), 3);
        refused("promiseAt", x -> x.promiseAt(0, 1), 5);
        refused("side", x -> x.side(3, 0), 50);
        refused("locked", x -> x.locked(3, 0), 0);
        refused("about", x -> x.about(4, 4), 14);
        refused("stateAt", x -> x.stateAt(0, 1, 0), 95);
        refused("learnt", x -> x.learnt(3, 0), 20);
        refused("off", x -> x.off() > 0 ? 1 : 0, 1);
        refused("digest", x -> x.digest() == busy().digest() ? 1 : 0, 1);
    }

    /** "the first of: BAD .. NO". */
    private static void badAheadOfNo() {
        refused("s is away, x is 0", x -> x.promise(2, 3, 0), BAD);
        refused("s is away and is d", x -> x.promise(2, 2, 1), BAD);
        refused("s is away, d is nobody", x -> x.promise(2, 5, 1), BAD);
        refused("no way, x is too much", x -> x.promise(0, 4, 100001), BAD);
        refused("closing, no such state", x -> x.close(4, 0, 1), BAD);
        refused("closing, not of it", x -> x.close(4, 1, 0), BAD);
        refused("closed, no such state", x -> x.close(5, 1, 1), BAD);
        refused("closed, not of it", x -> x.close(5, 0, 0), BAD);
        refused("locks, no such state", x -> x.close(0, 0, 2), BAD);
        refused("locks, not of it", x -> x.close(0, 3, 0), BAD);
        refused("away, no such state", x -> x.close(2, 2, 2), BAD);
        refused("away, not of it", x -> x.close(3, 4, 0), BAD);
        PromiseChains x = new PromiseChains();
        check.due("no way yet, y is 0", x.tries(0), BAD);
        check.due("no way yet, y is too much", x.tries(200001), BAD);
        check.due("no way yet, y is as told", x.tries(200000), NO);
    }

    /** "the first of: BAD .. FULL". */
    private static void badAheadOfFull() {
        PromiseChains x = Scenes.two(50, 50);
        for (int i = 1; i < 12; i++) {
            x.pair(0, 1, 1, 1);
        }
        check.due("a is nobody", x.pair(2, 1, 1, 1), BAD);
        check.due("b is nobody", x.pair(0, -1, 1, 1), BAD);
        check.due("with itself", x.pair(1, 1, 1, 1), BAD);
        check.due("a's side", x.pair(0, 1, 100001, 1), BAD);
        check.due("b's side", x.pair(0, 1, 1, -1), BAD);
        check.due("all as told", x.pair(0, 1, 1, 1), FULL);
        fillPromises(x);
        check.due("s is nobody", x.promise(2, 1, 1), BAD);
        check.due("d is nobody", x.promise(0, 2, 1), BAD);
        check.due("s is d", x.promise(0, 0, 1), BAD);
        check.due("x is 0", x.promise(0, 1, 0), BAD);
        check.due("x is too much", x.promise(0, 1, 100001), BAD);
        check.due("all as told", x.promise(0, 1, 1), FULL);
    }

    private static void fillPromises(PromiseChains x) {
        for (int i = 0; i < 40; i++) {
            check.due("promise " + i, x.promise(0, 1, 1), i);
        }
    }

    /** "the first of: .. NO .. FULL". */
    private static void noAheadOfFull() {
        PromiseChains x = Scenes.two(50, 50);
        fillPromises(x);
        check.due("ten are left", x.promise(0, 1, 10), FULL);
        check.due("not eleven", x.promise(0, 1, 11), NO);
        x.away(0, true);
        check.due("s is away", x.promise(0, 1, 10), NO);
        check.due("s is away and x is 0", x.promise(0, 1, 0), BAD);
        check.due("the other one is not", x.promise(1, 0, 10), FULL);
        x.away(0, false);
        check.due("back", x.promise(0, 1, 10), FULL);
    }

    /** BAD is ahead of NONE, where a call may answer either. */
    private static void badAheadOfNone() {
        refused("no way, x is 0", x -> x.best(0, 4, 0), BAD);
        refused("no such state, which is 2", x -> x.stateAt(0, 2, 2), BAD);
        refused("no such state, no such pair", x -> x.stateAt(6, 2, 0), BAD);
        refused("no ring, what is 5", x -> x.ring(5, 0), BAD);
        refused("no ring, what is 5, i is far off", x -> x.ring(5, 99), BAD);
    }

    /** A new object refuses what needs a pair, a promise, a way or a ring. */
    private static void refusedAtFirst() {
        PromiseChains x = new PromiseChains();
        long before = x.digest();
        check.due("tell", x.tell(0), BAD);
        check.due("promiseAt", x.promiseAt(0, 0), BAD);
        check.due("side", x.side(0, 0), BAD);
        check.due("locked", x.locked(0, 0), BAD);
        check.due("about", x.about(0, 0), BAD);
        check.due("stateAt", x.stateAt(0, 0, 0), BAD);
        check.due("close", x.close(0, 0, 0), BAD);
        check.due("learnt", x.learnt(0, 0), BAD);
        check.due("best", x.best(0, 1, 1), NONE);
        check.due("promise", x.promise(0, 1, 1), NO);
        check.due("wayAt", x.wayAt(0), NONE);
        check.due("ring", x.ring(0, 0), NONE);
        check.due("even", x.even(), NO);
        check.due("tries", x.tries(1), NO);
        check.due("nothing changed", x.digest(), before);
    }
}
