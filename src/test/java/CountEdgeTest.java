/** Promises 1, 25 and 26, the constants, and that objects know nothing of one another. */
public final class CountEdgeTest {
    private static final int NONE = Scenes.NONE, BAD = Scenes.BAD;
    private static final Check check = new Check();

    public static void main(String[] args) {
        constants();
        countBounds();
        countsAtFirst();
        countsOfEach();
        locksThatAre();
        digestOfANewOne();
        digestGoesByItsRow();
        digestWrapsAround();
        digestTellsEachChange();
        objectsAreAlone();
        fiveHundredAndTwelveCalls();
        check.end();
    }

    private static void due(String what, long got, long want) {
        check.due(what, got, want);
    }

    private static void dueCounts(String what, PromiseChains x, int... want) {
        for (int i = 0; i < want.length; i++) {
            due(what + ": count(" + i + ")", x.count(i), want[i]);
        }
    }

    /** "NONE = -1, BAD = -2, NO = -3, FULL = -4". */
    private static void constants() {
        due("NONE", PromiseChains.NONE, -1);
        due("BAD", PromiseChains.BAD, -2);
        due("NO", PromiseChains.NO, -3);
        due("FULL", PromiseChains.FULL, -4);
    }

    /** count: "BAD". */
    private static void countBounds() {
        PromiseChains x = new PromiseChains();
        for (int[] some : new int[][] {Scenes.BELOW, Scenes.ABOVE, {8, 9}}) {
            for (int what : some) {
                due("count(" + what + ")", x.count(what), BAD);
            }
        }
        due("the first", x.count(0), 2);
        due("the last", x.count(7), 0);
    }

    /** A new object: "Two PEOPLE, no PAIRS", THE TIME 0, GAP 3, LOOK 5, nobody away. */
    private static void countsAtFirst() {
        dueCounts("at first", new PromiseChains(), 2, 0, 0, 0, 0, 3, 5, 0);
    }

    /** count: "0 PEOPLE, 1 PAIRS, 2 PROMISES, 3 LOCKS that are, 4 THE TIME, 5 GAP, 6 LOOK, 7 PEOPLE AWAY". */
    private static void countsOfEach() {
        PromiseChains x = Scenes.row(6, 50);
        x.gap(11);
        x.look(12);
        x.promise(0, 4, 1);
        x.promise(0, 3, 1);
        x.tick(13);
        x.away(0, true);
        x.away(5, true);
        x.away(3, true);
        dueCounts("each", x, 6, 5, 2, 5, 13, 11, 12, 3);
        x.away(3, false);
        x.close(4, 4, 0);
        x.tick(12);
        dueCounts("a closed pair counts", x, 6, 5, 2, 3, 25, 11, 12, 2);
    }

    /** count: "3 LOCKS that are": not those that were kept or ran out. */
    private static void locksThatAre() {
        PromiseChains x = Scenes.row(7, 50);
        int locks = 0;
        for (int i = 1; i < 7; i++) {
            x.promise(0, i, 1);
            locks += i;
            due("locks", x.count(3), locks);
        }
        x.tell(5);
        due("six kept", x.count(3), locks - 6);
        x.tick(3);
        due("five ran out", x.count(3), locks - 11);
        x.people(7);
        due("none anew", x.count(3), 0);
    }

    /** digest: "h = 233; then h = 31 h + v for each v: count(0) to count(7); of PEOPLE wealth()". */
    private static void digestOfANewOne() {
        due("a new one", new PromiseChains().digest(), rolled(2, 0, 0, 0, 0, 3, 5, 0, 0, 0));
        PromiseChains x = new PromiseChains();
        x.people(7);
        due("seven people", x.digest(), rolled(7, 0, 0, 0, 0, 3, 5, 0, 0, 0, 0, 0, 0, 0, 0));
    }

    private static long rolled(int... row) {
        long h = 233;
        for (int v : row) {
            h = 31 * h + v;
        }
        return h;
    }

    /** digest: people, then pairs, then promises, each with all its numbers in their order. */
    private static void digestGoesByItsRow() {
        PromiseChains x = new PromiseChains();
        x.people(3);
        x.pair(0, 1, 20, 30);
        x.pair(2, 1, 40, 50);
        x.fee(1, 2, 0);
        x.promise(0, 2, 10);
        x.away(1, true);
        x.tell(0);
        x.close(1, 2, 1);
        x.pair(0, 2, 60, 70);
        x.best(2, 0, 1);
        x.tries(65);
        due("all of it", x.digest(), rolled(3, 3, 1, 1, 0, 3, 5, 1,
                20 + 60, 30 + 40, 50 + 70,
                0, 1, 0, 1, NONE, 8, 30, 12, 0, 0, 38,
                2, 1, 1, 2, 5, 50, 40, 0, 0, 0, 90,
                0, 2, 0, 1, NONE, 60, 70, 0, 0, 0, 65,
                0, 10, 12, 2, 1, 1, 0));
    }

    /** digest is a long that turns around: so its high half is right, too. */
    private static void digestWrapsAround() {
        PromiseChains x = new PromiseChains();
        for (int i = 0; i < 12; i++) {
            x.pair(0, 1, 100000, 100000 - i);
        }
        for (int i = 0; i < 40; i++) {
            x.promise(i % 2, 1 - i % 2, 1000 + i);
        }
        due("a long row", x.digest(), asked(x));
        x.tick(60);
        due("a longer one", x.digest(), asked(x));
        x.people(2);
        due("a short one again", x.digest(), asked(x));
    }

    private static long asked(PromiseChains x) {
        long h = 233;
        for (int what = 0; what <= 7; what++) {
            h = 31 * h + x.count(what);
        }
        for (int person = 0; person < x.count(0); person++) {
            h = 31 * h + x.wealth(person);
        }
        for (int pair = 0; pair < x.count(1); pair++) {
            for (int what = 0; what <= 4; what++) {
                h = 31 * h + x.about(pair, what);
            }
            h = 31 * h + x.side(pair, 0);
            h = 31 * h + x.side(pair, 1);
            h = 31 * h + x.locked(pair, 0);
            h = 31 * h + x.locked(pair, 1);
            h = 31 * h + x.learnt(pair, 0);
            h = 31 * h + x.learnt(pair, 1);
        }
        for (int promise = 0; promise < x.count(2); promise++) {
            for (int what = 0; what <= 6; what++) {
                h = 31 * h + x.promiseAt(promise, what);
            }
        }
        return h;
    }

    /** digest asked twice is the same, and another one behind each call that changes what it tells. */
    private static void digestTellsEachChange() {
        PromiseChains x = Scenes.triangle(30, 10, 30, 10, 30, 10);
        long before = x.digest();
        due("the same", x.digest(), before);
        for (int step = 0; step < 8; step++) {
            switch (step) {
                case 0: x.gap(4); break;
                case 1: x.look(6); break;
                case 2: x.away(2, true); break;
                case 3: x.promise(0, 1, 5); break;
                case 4: x.tell(0); break;
                case 5: x.tries(3); break;
                case 6: x.tick(1); break;
                default: x.close(0, 0, 1); break;
            }
            check.holds("step " + step + " is told", x.digest() != before);
            before = x.digest();
            due("as asked", before, asked(x));
        }
    }

    /** Two objects, one call in turn: neither sees the other. */
    private static void objectsAreAlone() {
        PromiseChains x = new PromiseChains();
        PromiseChains y = new PromiseChains();
        x.people(4);
        y.pair(0, 1, 50, 50);
        x.pair(2, 3, 7, 7);
        y.gap(9);
        x.look(8);
        y.promise(0, 1, 20);
        x.fee(1, 5, 5);
        y.tick(4);
        x.away(1, true);
        dueCounts("x", x, 4, 1, 0, 0, 0, 3, 8, 1);
        dueCounts("y", y, 2, 1, 1, 1, 4, 9, 5, 0);
        due("x has no way", x.wayAt(0), NONE);
        due("y has one", y.wayAt(0), 0);
        due("x's pair", x.side(0, 0), 7);
        due("y's pair", y.side(0, 0), 30);
    }

    /** "An object is used for at most 512 calls": the last of them is answered as the first. */
    private static void fiveHundredAndTwelveCalls() {
        PromiseChains x = new PromiseChains();
        for (int call = 1; call <= 512; call++) {
            due("call " + call, x.tick(60), 0);
        }
        x = Scenes.two(100000, 0);
        for (int i = 0; i < 40; i++) {
            x.gap(1);
            Scenes.pay(x, i % 2, 1 - i % 2, 100000);
            x.tick(1);
            x.away(0, true);
            x.away(0, false);
        }
        due("41 states", x.about(0, 3), 41);
        due("all is back", x.side(0, 0), 100000);
        due("time", x.count(4), 40);
    }
}
