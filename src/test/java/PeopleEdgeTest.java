/** Terms 1, promises 1 to 4, 8 and 9: each sentence that names a boundary case, above the test of it. */
public final class PeopleEdgeTest {
    private static final int NONE = Scenes.NONE, BAD = Scenes.BAD, NO = Scenes.NO, FULL = Scenes.FULL;
    private static final Check check = new Check();

    public static void main(String[] args) {
        peopleAreTwoToSeven();
        twoAtFirst();
        peopleAreNumberedBelowN();
        fewerPeopleThanBefore();
        thereAtFirst();
        noCashAtFirst();
        cashIsAnyNumber();
        feeBaseIsZeroToHundred();
        feeRateIsZeroToHundred();
        noFeeAtFirst();
        feeIsCut();
        greatestFee();
        peopleClearsAll();
        pairsAreNewAnew();
        promisesAreNewAnew();
        gapAndLookStay();
        pairsAreTwelve();
        closedPairsCountToTwelve();
        sidesAreZeroToHundredThousand();
        sideMayGrowBeyond();
        notWithItself();
        twoBetweenTheSame();
        lockedIsNotInTheSide();
        check.end();
    }

    private static void due(String what, long got, long want) {
        check.due(what, got, want);
    }

    /** "PEOPLE 0 .. n - 1 (2 .. 7 ..)"; people: "BAD". */
    private static void peopleAreTwoToSeven() {
        PromiseChains x = new PromiseChains();
        for (int n : Scenes.BELOW) {
            due("people(" + n + ")", x.people(n), BAD);
        }
        for (int n : Scenes.ABOVE) {
            due("people(" + n + ")", x.people(n), BAD);
        }
        for (int n : new int[] {0, 1, 8, 9}) {
            due("people(" + n + ")", x.people(n), BAD);
        }
        due("nothing changed", x.count(0), 2);
        for (int n = 2; n <= 7; n++) {
            due("people(" + n + ")", x.people(n), 1);
            due("so many people", x.count(0), n);
        }
    }

    /** "2 at first"; A new object: "Two PEOPLE, no PAIRS". */
    private static void twoAtFirst() {
        PromiseChains x = new PromiseChains();
        due("two", x.count(0), 2);
        due("person 1 is", x.wealth(1), 0);
        due("person 2 is not", x.wealth(2), BAD);
        due("no pairs", x.count(1), 0);
        due("pair 0 is not", x.about(0, 2), BAD);
        due("no promises", x.count(2), 0);
        due("promise 0 is not", x.promiseAt(0, 0), BAD);
    }

    /** "PEOPLE 0 .. n - 1": each call that names a person takes the last one and none behind or below. */
    private static void peopleAreNumberedBelowN() {
        for (int n = 2; n <= 7; n++) {
            PromiseChains x = new PromiseChains();
            x.people(n);
            int last = n - 1;
            due("fee of the last one", x.fee(last, 0, 0), 1);
            due("the last one goes", x.away(last, true), 0);
            due("the last one comes back", x.away(last, false), 0);
            due("a pair from the last one", x.pair(last, 0, 5, 5), 0);
            due("a pair to the last one", x.pair(0, last, 5, 5), 1);
            due("best from the last one", x.best(last, 0, 1), 1);
            due("best to the last one", x.best(0, last, 1), 1);
            due("wealth of the last one", x.wealth(last), 10);
            due("a promise of the last one", x.promise(last, 0, 5), 0);
            due("a promise to the last one", x.promise(0, last, 5), 1);
            x.tick(3);
            due("the last one closes", x.close(0, last, 0), 1);
            for (int person : new int[] {n, n + 1, -1}) {
                noPerson(x, person);
            }
        }
    }

    private static void noPerson(PromiseChains x, int person) {
        due("no fee of " + person, x.fee(person, 0, 0), BAD);
        due("not away " + person, x.away(person, true), BAD);
        due("not back " + person, x.away(person, false), BAD);
        due("no pair from " + person, x.pair(person, 0, 5, 5), BAD);
        due("no pair to " + person, x.pair(0, person, 5, 5), BAD);
        due("no best from " + person, x.best(person, 0, 1), BAD);
        due("no best to " + person, x.best(0, person, 1), BAD);
        due("no wealth of " + person, x.wealth(person), BAD);
        due("no promise of " + person, x.promise(person, 0, 5), BAD);
        due("no promise to " + person, x.promise(0, person, 5), BAD);
        due("no closing by " + person, x.close(1, person, 0), BAD);
    }

    /** "PEOPLE 0 .. n - 1", with fewer of them than there were. */
    private static void fewerPeopleThanBefore() {
        PromiseChains x = new PromiseChains();
        x.people(7);
        x.away(6, true);
        x.people(3);
        noPerson(x, 3);
        noPerson(x, 6);
        due("nobody of those that are is away", x.count(7), 0);
        x.people(7);
        due("nor is the seventh any more", x.away(6, false), NO);
    }

    /** "are THERE or AWAY (THERE at first)"; people: "THERE". */
    private static void thereAtFirst() {
        PromiseChains x = new PromiseChains();
        for (int person = 0; person < 2; person++) {
            due("is there at first", x.away(person, false), NO);
        }
        due("nobody is away", x.count(7), 0);
        x.away(0, true);
        x.away(1, true);
        due("all are away", x.count(7), 2);
        x.people(2);
        due("there anew", x.count(7), 0);
        due("0 is there anew", x.away(0, false), NO);
        due("1 is there anew", x.away(1, false), NO);
    }

    /** "CASH (.. 0 at first)"; people: "without CASH". */
    private static void noCashAtFirst() {
        PromiseChains x = new PromiseChains();
        due("no cash of 0", x.wealth(0), 0);
        due("no cash of 1", x.wealth(1), 0);
        x.pair(0, 1, 30, 20);
        x.close(0, 0, 0);
        x.tick(5);
        due("cash of 0", x.wealth(0), 30);
        due("cash of 1", x.wealth(1), 20);
        x.people(2);
        due("no cash of 0 anew", x.wealth(0), 0);
        due("no cash of 1 anew", x.wealth(1), 0);
    }

    /** "CASH (any number ..)": above what a side may begin with. */
    private static void cashIsAnyNumber() {
        PromiseChains x = new PromiseChains();
        for (int i = 0; i < 12; i++) {
            x.pair(0, 1, 100000, i);
            x.close(i, 1, 0);
        }
        x.tick(5);
        due("twelve sides in cash", x.wealth(0), 1200000);
        due("the other ones", x.wealth(1), 66);
    }

    /** "base (0 .. 100)". */
    private static void feeBaseIsZeroToHundred() {
        PromiseChains x = Scenes.row(3, 1000);
        for (int base : new int[] {-1, 101, 102, -100, Scenes.LOW, Scenes.HIGH}) {
            due("fee(1, " + base + ", 0)", x.fee(1, base, 0), BAD);
        }
        due("no fee came of it", x.best(0, 2, 10), 10);
        for (int base : new int[] {0, 1, 99, 100}) {
            due("fee(1, " + base + ", 0)", x.fee(1, base, 0), 1);
            due("best with it", x.best(0, 2, 10), 10 + base);
        }
    }

    /** "rate (0 .. 100) thousandths". */
    private static void feeRateIsZeroToHundred() {
        PromiseChains x = Scenes.row(3, 2000);
        for (int rate : new int[] {-1, 101, 102, -100, Scenes.LOW, Scenes.HIGH}) {
            due("fee(1, 0, " + rate + ")", x.fee(1, 0, rate), BAD);
        }
        due("no fee came of it", x.best(0, 2, 1000), 1000);
        for (int rate : new int[] {0, 1, 99, 100}) {
            due("fee(1, 0, " + rate + ")", x.fee(1, 0, rate), 1);
            due("best with it", x.best(0, 2, 1000), 1000 + rate);
        }
    }

    /** "both 0 at first"; people: "without .. FEES". */
    private static void noFeeAtFirst() {
        PromiseChains x = Scenes.row(7, 5000);
        due("no fee of five at first", x.best(0, 6, 5000), 5000);
        for (int person = 0; person < 7; person++) {
            x.fee(person, 7, 50);
        }
        x.people(7);
        for (int i = 0; i < 6; i++) {
            x.pair(i, i + 1, 5000, 0);
        }
        due("no fee of five anew", x.best(0, 6, 5000), 5000);
    }

    /** "of y it is base and y rate by 1000, cut". */
    private static void feeIsCut() {
        PromiseChains x = Scenes.row(3, 5000);
        x.fee(1, 0, 1);
        int[] y = {1, 500, 999, 1000, 1001, 1999, 2000};
        int[] fee = {0, 0, 0, 1, 1, 1, 2};
        for (int i = 0; i < y.length; i++) {
            due("a thousandth of " + y[i], x.best(0, 2, y[i]), y[i] + fee[i]);
        }
        x.fee(1, 5, 100);
        int[] z = {1, 9, 10, 19, 20, 4449};
        int[] with = {5, 5, 6, 6, 7, 449};
        for (int i = 0; i < z.length; i++) {
            due("5 and a tenth of " + z[i], x.best(0, 2, z[i]), z[i] + with[i]);
        }
        x.fee(1, 0, 3);
        due("3 thousandths of 333 are 0", x.best(0, 2, 333), 333);
        due("3 thousandths of 334 are 1", x.best(0, 2, 334), 335);
    }

    /** Both bounds of a fee at once, with the greatest side. */
    private static void greatestFee() {
        PromiseChains x = new PromiseChains();
        x.people(3);
        x.pair(0, 1, 100000, 0);
        x.pair(1, 2, 100000, 0);
        due("the greatest fee", x.fee(1, 100, 100), 1);
        due("100 and 9081", x.best(0, 2, 90819), 100000);
        due("one more has a fee of one more", x.best(0, 2, 90820), NONE);
        due("the side is the bound", x.best(1, 2, 100000), 100000);
    }

    /** people: "no PAIRS, no PROMISES, THE TIME 0". */
    private static void peopleClearsAll() {
        PromiseChains x = Scenes.row(3, 50);
        x.promise(0, 2, 10);
        x.tell(0);
        x.promise(0, 2, 10);
        x.tick(1);
        due("people(3)", x.people(3), 1);
        due("no pairs", x.count(1), 0);
        due("pair 0 is not", x.side(0, 0), BAD);
        due("no promises", x.count(2), 0);
        due("promise 0 is not", x.promiseAt(0, 0), BAD);
        due("nor can be told", x.tell(0), BAD);
        due("no locks", x.count(3), 0);
        due("the time is 0", x.count(4), 0);
        due("no off", x.off(), 0);
        due("no way to try", x.tries(1), NO);
        due("pair 0 comes", x.pair(0, 1, 7, 7), 0);
        due("with one state", x.about(0, 3), 1);
        due("with its sides", x.stateAt(0, 0, 0), 7);
        due("without locks", x.locked(0, 0), 0);
        due("nothing runs out", x.tick(60), 0);
        due("its side stays", x.side(0, 0), 7);
    }

    /** people: "no PAIRS": those that come then are open, without locks, with one state, nothing learnt, be they what they were. */
    private static void pairsAreNewAnew() {
        PromiseChains x = Scenes.row(7, 50);
        for (int pair = 0; pair < 4; pair++) {
            Scenes.pay(x, pair, pair + 1, 5);
            x.promise(pair, pair + 1, 5);
            x.promise(pair + 1, pair, 5);
            x.tries(20);
        }
        x.away(6, true);
        x.close(4, 4, 0);
        x.tick(1);
        x.close(5, 5, 0);
        x.away(0, true);
        due("people(7)", x.people(7), 1);
        for (int pair = 0; pair < 6; pair++) {
            x.pair(pair, pair + 1, 50, 50);
            due("open", x.about(pair, 2), 0);
            due("no end", x.about(pair, 4), NONE);
            due("one state", x.about(pair, 3), 1);
            due("not locked of a", x.locked(pair, 0), 0);
            due("not locked of b", x.locked(pair, 1), 0);
            due("least", x.learnt(pair, 0), 0);
            due("greatest", x.learnt(pair, 1), 100);
        }
        due("a way over all", x.best(0, 6, 50), 50);
        due("wealth of two sides", x.wealth(1), 100);
        due("a lock", x.promise(2, 3, 7), 0);
        due("kept", x.tell(0), 1);
        due("its state has no lock of others", x.stateAt(2, 1, 0), 43);
        due("nor b's", x.stateAt(2, 1, 1), 57);
    }

    /** people: "no PROMISES": those that come then are not told, and none of their locks is kept. */
    private static void promisesAreNewAnew() {
        PromiseChains x = Scenes.row(4, 50);
        Scenes.pay(x, 0, 3, 5);
        x.promise(0, 3, 5);
        x.tick(9);
        x.people(4);
        for (int i = 0; i < 3; i++) {
            x.pair(i, i + 1, 50, 50);
        }
        for (int promise = 0; promise < 2; promise++) {
            due("promise", x.promise(0, 3, 5), promise);
            due("open", x.promiseAt(promise, 0), 0);
            due("three locks", x.promiseAt(promise, 3), 3);
            due("none kept", x.promiseAt(promise, 4), 0);
            due("not told", x.promiseAt(promise, 5), 0);
            due("three more", x.count(3), 3 * promise + 3);
        }
        due("the first is kept", x.tell(0), 3);
        due("the second runs out", x.tick(9), 3);
    }

    /** people: "(GAP, LOOK stay)". */
    private static void gapAndLookStay() {
        PromiseChains x = new PromiseChains();
        x.gap(50);
        x.look(1);
        x.people(2);
        due("gap", x.count(5), 50);
        due("look", x.count(6), 1);
        x.pair(0, 1, 10, 10);
        x.promise(0, 1, 1);
        due("49 ticks", x.tick(49), 0);
        due("the fiftieth", x.tick(1), 1);
        x.close(0, 0, 0);
        due("end", x.about(0, 4), 51);
    }

    /** "PAIRS 0 .. 11, as they come"; pair: "its number", "FULL: 12". */
    private static void pairsAreTwelve() {
        PromiseChains x = new PromiseChains();
        for (int i = 0; i < 12; i++) {
            due("no pair " + i + " yet", x.about(i, 2), BAD);
            due("pair " + i, x.pair(i % 2, 1 - i % 2, i, 2 * i), i);
            due("so many", x.count(1), i + 1);
        }
        due("no thirteenth", x.pair(0, 1, 1, 1), FULL);
        due("nor the other way", x.pair(1, 0, 0, 0), FULL);
        due("twelve", x.count(1), 12);
        due("pair 11 is", x.side(11, 1), 22);
        due("pair 11 is from 1", x.about(11, 0), 1);
        due("pair 12 is not", x.side(12, 0), BAD);
        x.people(2);
        due("pair 0 anew", x.pair(0, 1, 1, 1), 0);
    }

    /** "PAIRS .. open or CLOSED": one that is CLOSED keeps its number. */
    private static void closedPairsCountToTwelve() {
        PromiseChains x = new PromiseChains();
        for (int i = 0; i < 12; i++) {
            x.pair(0, 1, 5, 5);
        }
        x.close(3, 0, 0);
        due("closing: full", x.pair(0, 1, 1, 1), FULL);
        x.tick(5);
        due("closed", x.about(3, 2), 2);
        due("closed: full", x.pair(0, 1, 1, 1), FULL);
        due("twelve", x.count(1), 12);
    }

    /** "each with a SIDE (0 .. 100000)". */
    private static void sidesAreZeroToHundredThousand() {
        PromiseChains x = new PromiseChains();
        for (int side : new int[] {-1, 100001, -100000, Scenes.LOW, Scenes.HIGH}) {
            due("a's side " + side, x.pair(0, 1, side, 5), BAD);
            due("b's side " + side, x.pair(0, 1, 5, side), BAD);
        }
        due("none came", x.count(1), 0);
        due("0 and 100000", x.pair(0, 1, 0, 100000), 0);
        due("100000 and 0", x.pair(0, 1, 100000, 0), 1);
        due("nothing on both", x.pair(0, 1, 0, 0), 2);
        due("all on both", x.pair(0, 1, 100000, 100000), 3);
        int[] sides = {0, 100000, 100000, 0, 0, 0, 100000, 100000};
        for (int i = 0; i < sides.length; i++) {
            due("side " + i, x.side(i / 2, i % 2), sides[i]);
        }
    }

    /** "SIDE (0 .. 100000)" is what a pair comes with: what is got comes on top of it. */
    private static void sideMayGrowBeyond() {
        PromiseChains x = Scenes.two(100000, 100000);
        due("all of a", Scenes.pay(x, 0, 1, 100000), 1);
        due("a has none", x.side(0, 0), 0);
        due("b has all", x.side(0, 1), 200000);
        due("state of it", x.stateAt(0, 1, 1), 200000);
        due("but x stays below", x.best(1, 0, 100001), BAD);
        due("x of its bound", x.best(1, 0, 100000), 100000);
    }

    /** pair: "BAD: also a PERSON with itself". */
    private static void notWithItself() {
        PromiseChains x = new PromiseChains();
        x.people(7);
        for (int person = 0; person < 7; person++) {
            due("with itself", x.pair(person, person, 1, 1), BAD);
        }
        due("none came", x.count(1), 0);
    }

    /** pair: "(Two may be between the same PEOPLE.)" */
    private static void twoBetweenTheSame() {
        PromiseChains x = new PromiseChains();
        due("one", x.pair(0, 1, 10, 1), 0);
        due("two", x.pair(0, 1, 20, 2), 1);
        due("turned", x.pair(1, 0, 30, 3), 2);
        due("each has its own sides", x.side(1, 0), 20);
        due("wealth of all", x.wealth(0), 33);
        due("a payment takes the first that has room", x.best(0, 1, 11), 11);
        due("that is the second", x.wayAt(0), 1);
        Scenes.pay(x, 0, 1, 11);
        due("the first stays", x.side(0, 0), 10);
        due("the second paid", x.side(1, 0), 9);
    }

    /** "What is LOCKED of a SIDE is not in it." */
    private static void lockedIsNotInTheSide() {
        PromiseChains x = Scenes.two(40, 60);
        x.promise(0, 1, 40);
        x.promise(1, 0, 59);
        due("a's whole side is locked", x.side(0, 0), 0);
        due("so much of a", x.locked(0, 0), 40);
        due("one is left of b's", x.side(0, 1), 1);
        due("so much of b", x.locked(0, 1), 59);
        due("no way over what is locked", x.best(0, 1, 1), NONE);
        due("b has one", x.best(1, 0, 1), 1);
        due("not two", x.best(1, 0, 2), NONE);
    }
}
