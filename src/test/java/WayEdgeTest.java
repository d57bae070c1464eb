/** Terms 1 on ways, promises 8 and 9: each sentence that names a boundary case, above the test of it. */
public final class WayEdgeTest {
    private static final int NONE = Scenes.NONE, BAD = Scenes.BAD;
    private static final Check check = new Check();

    public static void main(String[] args) {
        overOpenPairsAlone();
        fromOneToTheNext();
        nobodyTwice();
        eachWayIsLookedAt();
        eachSearchIsNew();
        sixPairsAtMost();
        getsOneToHundredThousand();
        lastCarriesX();
        aheadCarriesFeeOfWhatIsBehind();
        feeOfWhoIsBetweenAlone();
        noMoreThanTheSideOnEachPair();
        theSideThatPays();
        leastCarriedIsFirst();
        thenFewerPairs();
        thenFirstByNumbers();
        leastCarriedOnTheFirstPairAlone();
        noWayLeavesTheLatest();
        notToOneself();
        awayPeopleAreOnWays();
        wayAtBounds();
        latestWayIsThatOfAPromise();
        latestWayStaysAsItWas();
        check.end();
    }

    private static void due(String what, long got, long want) {
        check.due(what, got, want);
    }

    private static void dueWay(String what, PromiseChains x, String want) {
        check.due(what, Scenes.way(x), want);
    }

    /** "A WAY from s to d: PAIRS that are open". */
    private static void overOpenPairsAlone() {
        PromiseChains x = Scenes.row(3, 50);
        due("open", x.best(0, 2, 1), 1);
        x.close(1, 1, 0);
        due("closing", x.best(0, 2, 1), NONE);
        due("closing, the other way", x.best(2, 1, 1), NONE);
        x.tick(5);
        due("closed", x.best(0, 2, 1), NONE);
        due("the other one is open", x.best(0, 1, 50), 50);
    }

    /** "from one to the next one". */
    private static void fromOneToTheNext() {
        PromiseChains x = new PromiseChains();
        x.people(5);
        x.pair(0, 1, 9, 9);
        x.pair(2, 3, 9, 9);
        due("no pair between 1 and 2", x.best(0, 3, 1), NONE);
        due("none at all to 4", x.best(0, 4, 1), NONE);
        x.pair(2, 1, 9, 9);
        due("turned pairs join", x.best(0, 3, 1), 1);
        dueWay("over the turned one", x, "021");
    }

    /** "no PERSON twice": with less than no fee there is nothing to gain, so like ones are looked at. */
    private static void nobodyTwice() {
        PromiseChains x = new PromiseChains();
        x.people(4);
        x.pair(1, 2, 99, 99);
        x.pair(2, 1, 99, 99);
        x.pair(0, 1, 99, 99);
        x.pair(1, 3, 99, 99);
        x.pair(0, 2, 0, 99);
        due("0 to 3", x.best(0, 3, 5), 5);
        dueWay("straight, without a round over 2", x, "23");
        due("1 to 2", x.best(1, 2, 99), 99);
        dueWay("one pair", x, "0");
        due("1 to 2, more than any", x.best(1, 2, 100), NONE);
    }

    /** "THE BEST WAY": a person of a worse way may be on the best one, too. */
    private static void eachWayIsLookedAt() {
        PromiseChains x = new PromiseChains();
        x.people(4);
        x.pair(1, 3, 9, 9);
        x.pair(2, 1, 9, 9);
        x.pair(0, 2, 9, 9);
        x.pair(2, 3, 9, 9);
        due("0 to 3", x.best(0, 3, 9), 9);
        dueWay("not 2, 1, 0", x, "23");
        due("3 to 0", x.best(3, 0, 9), 9);
        dueWay("nor 0, 1, 2", x, "32");
    }

    /** "THE BEST WAY": whom the latest one was from or to is between others, or an end, as well. */
    private static void eachSearchIsNew() {
        for (int person = 0; person < 7; person++) {
            PromiseChains x = new PromiseChains();
            x.people(7);
            x.pair((person + 1) % 7, person, 9, 9);
            x.pair(person, (person + 2) % 7, 9, 9);
            due("to " + person, x.best((person + 1) % 7, person, 9), 9);
            due("over " + person, x.best((person + 1) % 7, (person + 2) % 7, 9), 9);
            dueWay("over both", x, "01");
            due("from " + person, x.best(person, (person + 1) % 7, 9), 9);
            due("back over " + person, x.best((person + 2) % 7, (person + 1) % 7, 9), 9);
            dueWay("over both turned", x, "10");
        }
    }

    /** "no PERSON twice": so six pairs for seven people. */
    private static void sixPairsAtMost() {
        PromiseChains x = Scenes.row(7, 10);
        due("over six", x.best(0, 6, 10), 10);
        dueWay("six", x, "012345");
        due("no seventh", x.wayAt(6), NONE);
        due("back over six", x.best(6, 0, 10), 10);
        dueWay("six turned", x, "543210");
        due("six locks", x.promise(0, 6, 10), 0);
        due("six", x.promiseAt(0, 3), 6);
        due("all kept", x.tell(0), 6);
    }

    /** "With x (1 .. 100000) that d is to get". */
    private static void getsOneToHundredThousand() {
        PromiseChains x = Scenes.two(100000, 100000);
        for (int sum : new int[] {0, -1, 100001, 100002, Scenes.LOW, Scenes.HIGH}) {
            due("best of " + sum, x.best(0, 1, sum), BAD);
            due("promise of " + sum, x.promise(0, 1, sum), BAD);
        }
        due("best of 1", x.best(0, 1, 1), 1);
        due("best of 100000", x.best(0, 1, 100000), 100000);
        due("promise of 1", x.promise(0, 1, 1), 0);
        due("promise of 100000", x.promise(1, 0, 100000), 1);
        due("all of b is kept", x.tell(1), 1);
        due("a has more than the bound", x.side(0, 0), 199999);
        due("a bad x though the side has it", x.best(0, 1, 100001), BAD);
        due("a bad x though the side has it: promise", x.promise(0, 1, 100001), BAD);
    }

    /** "the last PAIR carries x". */
    private static void lastCarriesX() {
        PromiseChains x = Scenes.row(3, 1000);
        x.fee(0, 100, 100);
        x.fee(2, 100, 100);
        due("one pair carries x", x.best(0, 1, 7), 7);
        x.fee(1, 3, 0);
        x.promise(0, 2, 7);
        due("the last one carries 7", x.locked(1, 0), 7);
        due("the first one 10", x.locked(0, 0), 10);
    }

    /** "each one ahead of it carries what the next one does and the FEE of that". */
    private static void aheadCarriesFeeOfWhatIsBehind() {
        PromiseChains x = Scenes.row(5, 5000);
        x.fee(1, 1, 100);
        x.fee(2, 0, 100);
        x.fee(3, 2, 100);
        due("fees on fees", x.best(0, 4, 1000), 1334);
        x.promise(0, 4, 1000);
        int[] carried = {1334, 1212, 1102, 1000};
        for (int pair = 0; pair < 4; pair++) {
            due("pair " + pair + " carries", x.locked(pair, 0), carried[pair]);
        }
    }

    /** "of the PERSON between both": not of who pays, not of who gets. */
    private static void feeOfWhoIsBetweenAlone() {
        PromiseChains x = Scenes.row(4, 500);
        x.fee(0, 50, 0);
        x.fee(3, 50, 0);
        due("ends take none", x.best(0, 3, 10), 10);
        x.fee(1, 4, 0);
        due("1 is between", x.best(0, 3, 10), 14);
        due("1 is an end", x.best(1, 3, 10), 10);
        due("1 is the other end", x.best(3, 1, 10), 10);
        due("1 and 2 of the turned way", x.best(3, 0, 10), 14);
    }

    /** "each has to be no more than the SIDE that pays it": as much, and one more, on each of three. */
    private static void noMoreThanTheSideOnEachPair() {
        PromiseChains x = new PromiseChains();
        for (int poor = 0; poor < 3; poor++) {
            x.people(4);
            for (int pair = 0; pair < 3; pair++) {
                int carried = 10 + 2 * (2 - pair);
                x.pair(pair, pair + 1, pair == poor ? carried : 900, 0);
            }
            x.fee(1, 2, 0);
            x.fee(2, 2, 0);
            due("as much as pair " + poor + " has", x.best(0, 3, 10), 14);
            due("one more than pair " + poor + " has", x.best(0, 3, 11), NONE);
        }
        x = Scenes.two(1, 0);
        due("1 of 1", x.best(0, 1, 1), 1);
        due("2 of 1", x.best(0, 1, 2), NONE);
        due("1 of 0", x.best(1, 0, 1), NONE);
    }

    /** "the SIDE that pays it": a's from a to b, b's from b to a. */
    private static void theSideThatPays() {
        PromiseChains x = Scenes.two(7, 9);
        due("a has 7", x.best(0, 1, 7), 7);
        due("not 8", x.best(0, 1, 8), NONE);
        due("b has 9", x.best(1, 0, 9), 9);
        due("not 10", x.best(1, 0, 10), NONE);
        x.promise(1, 0, 3);
        due("locked of b", x.locked(0, 1), 3);
        due("nothing of a", x.locked(0, 0), 0);
        due("b's side", x.side(0, 1), 6);
        due("a's side", x.side(0, 0), 7);
    }

    /** "THE BEST WAY: that on which the first PAIR carries least": ahead of fewer pairs and of numbers. */
    private static void leastCarriedIsFirst() {
        PromiseChains x = new PromiseChains();
        x.people(5);
        x.pair(0, 1, 90, 0);
        x.pair(1, 4, 90, 0);
        x.pair(0, 2, 90, 0);
        x.pair(2, 3, 90, 0);
        x.pair(3, 4, 90, 0);
        x.fee(1, 3, 0);
        x.fee(2, 1, 0);
        x.fee(3, 1, 0);
        due("two fees of 1 are less than one of 3", x.best(0, 4, 20), 22);
        dueWay("three pairs", x, "234");
        x.fee(1, 2, 0);
        due("now like", x.best(0, 4, 20), 22);
        dueWay("two pairs", x, "01");
        x.fee(1, 1, 0);
        due("now less", x.best(0, 4, 20), 21);
        dueWay("two pairs still", x, "01");
    }

    /** "of like ones that of fewer PAIRS": ahead of numbers. */
    private static void thenFewerPairs() {
        PromiseChains x = new PromiseChains();
        x.people(3);
        x.pair(0, 1, 90, 0);
        x.pair(1, 2, 90, 0);
        x.pair(0, 2, 90, 0);
        due("like ones", x.best(0, 2, 20), 20);
        dueWay("one pair of a higher number", x, "2");
        x.fee(1, 0, 100);
        due("a fee cut to 0 is like, too", x.best(0, 2, 9), 9);
        dueWay("one pair", x, "2");
        due("91 is more than it has", x.best(0, 2, 91), NONE);
    }

    /** "then the first by numbers of PAIRS": from the first pair of the way on. */
    private static void thenFirstByNumbers() {
        PromiseChains x = new PromiseChains();
        x.people(4);
        x.pair(1, 3, 9, 0);
        x.pair(0, 2, 9, 0);
        x.pair(2, 3, 9, 0);
        x.pair(0, 1, 9, 0);
        x.best(0, 3, 5);
        dueWay("1, 2 is ahead of 3, 0", x, "12");
        x.pair(2, 3, 9, 0);
        x.best(0, 3, 5);
        dueWay("1, 2 is ahead of 1, 4", x, "12");
        Scenes.pay(x, 2, 3, 5);
        x.best(0, 3, 5);
        dueWay("2 has no room any more", x, "14");
        x = new PromiseChains();
        for (int i = 0; i < 12; i++) {
            x.pair(i % 2, 1 - i % 2, 9, 9);
        }
        x.best(0, 1, 9);
        dueWay("the first of twelve", x, "0");
        Scenes.pay(x, 0, 1, 9);
        x.best(0, 1, 9);
        dueWay("the next one", x, "1");
    }

    /** "that on which the first PAIR carries least": what comes behind it may carry more than elsewhere. */
    private static void leastCarriedOnTheFirstPairAlone() {
        PromiseChains x = new PromiseChains();
        x.people(6);
        x.pair(0, 1, 900, 0);
        x.pair(1, 2, 900, 0);
        x.pair(2, 5, 900, 0);
        x.pair(0, 3, 900, 0);
        x.pair(3, 4, 900, 0);
        x.pair(4, 5, 900, 0);
        x.fee(1, 10, 0);
        x.fee(2, 0, 0);
        x.fee(3, 0, 0);
        x.fee(4, 9, 0);
        due("9 is less than 10", x.best(0, 5, 100), 109);
        dueWay("though pair 4 carries 109 and pair 1 would carry 100", x, "345");
        x.promise(0, 5, 100);
        due("pair 4", x.locked(4, 0), 109);
    }

    /** best: "NONE: there is none (the latest WAY stays)". */
    private static void noWayLeavesTheLatest() {
        PromiseChains x = Scenes.row(3, 10);
        due("none at first", x.best(0, 2, 11), NONE);
        dueWay("no latest way", x, "");
        x.best(2, 0, 10);
        dueWay("a latest way", x, "10");
        due("none", x.best(0, 2, 11), NONE);
        dueWay("it stays", x, "10");
        due("bad", x.best(0, 2, 0), BAD);
        dueWay("it stays behind a bad one", x, "10");
        due("another one", x.best(0, 1, 10), 10);
        dueWay("it is the latest then", x, "0");
    }

    /** best: "BAD: also s like d"; promise the same. */
    private static void notToOneself() {
        PromiseChains x = Scenes.row(7, 10);
        for (int person = 0; person < 7; person++) {
            due("best to oneself", x.best(person, person, 1), BAD);
            due("promise to oneself", x.promise(person, person, 1), BAD);
        }
        due("without pairs, too", new PromiseChains().best(0, 0, 1), BAD);
    }

    /** "PAIRS that are open": who is AWAY is on ways, be it as s, between, or as d. */
    private static void awayPeopleAreOnWays() {
        for (int person = 0; person < 3; person++) {
            PromiseChains x = Scenes.row(3, 10);
            x.away(person, true);
            due("best over who is away", x.best(0, 2, 10), 10);
            due("promise over who is away", x.promise(0, 2, 10), person == 0 ? Scenes.NO : 0);
        }
    }

    /** wayAt: "NONE: not so many." */
    private static void wayAtBounds() {
        PromiseChains x = Scenes.row(4, 10);
        for (int i : new int[] {-1, 0, 1, 6, Scenes.LOW, Scenes.HIGH}) {
            due("no way yet: wayAt(" + i + ")", x.wayAt(i), NONE);
        }
        x.best(0, 3, 10);
        due("first", x.wayAt(0), 0);
        due("last", x.wayAt(2), 2);
        due("one behind", x.wayAt(3), NONE);
        x.best(3, 2, 10);
        due("a shorter way", x.wayAt(0), 2);
        due("what was second is gone", x.wayAt(1), NONE);
        due("what was third is gone", x.wayAt(2), NONE);
        for (int i : Scenes.BELOW) {
            due("wayAt(" + i + ")", x.wayAt(i), NONE);
        }
        for (int i : Scenes.ABOVE) {
            due("wayAt(" + i + ")", x.wayAt(i), NONE);
        }
    }

    /** promise: "(it is the latest WAY then)". */
    private static void latestWayIsThatOfAPromise() {
        PromiseChains x = Scenes.row(4, 10);
        x.best(0, 3, 1);
        x.promise(3, 1, 1);
        dueWay("of the promise", x, "21");
        due("none", x.promise(0, 3, 100), Scenes.NO);
        dueWay("a refused one changes nothing", x, "21");
        due("bad", x.promise(0, 0, 1), BAD);
        dueWay("nor does a bad one", x, "21");
        x.away(0, true);
        due("away", x.promise(0, 1, 1), Scenes.NO);
        dueWay("nor who is away", x, "21");
    }

    /** "the latest WAY": nothing but best and promise makes another one. */
    private static void latestWayStaysAsItWas() {
        PromiseChains x = Scenes.triangle(30, 10, 30, 10, 30, 10);
        x.best(1, 0, 10);
        dueWay("one pair", x, "0");
        due("a ring", x.even(), 10);
        x.pair(1, 0, 99, 99);
        x.fee(2, 5, 5);
        x.tick(3);
        x.close(0, 0, 0);
        dueWay("it stays", x, "0");
        x.tick(5);
        dueWay("it stays when its pair is closed", x, "0");
        due("none", x.best(1, 0, 100), NONE);
        due("found anew", x.best(1, 0, 99), 99);
        dueWay("the new one", x, "3");
    }
}
