/** Terms 2, promises 5, 7 and 10 to 13: each sentence that names a boundary case, above the test of it. */
public final class PromiseEdgeTest {
    private static final int BAD = Scenes.BAD, NO = Scenes.NO, FULL = Scenes.FULL;
    private static final int OPEN = 0, KEPT = 1, BROKEN = 2, TORN = 3;
    private static final Check check = new Check();

    public static void main(String[] args) {
        timeIsZeroAtFirst();
        ticksAreOneToSixty();
        gapIsOneToFifty();
        gapIsThreeAtFirst();
        clockOfTheLastPair();
        eachAheadGapMore();
        gapOfAPromiseStays();
        wordIsKnownWhenTold();
        toldToWhoIsAway();
        whoGetsIsThere();
        whoPaysMayBeAway();
        timeIsBelowTheClock();
        eachClockOnItsOwn();
        whoPaidKnowsTheWord();
        comesToTheSideOfWhoGets();
        somebodyComesBack();
        againAndAgain();
        severalPromisesAtOnce();
        aTickKeepsNothingOfItself();
        runsOutAtTheClock();
        runsOutToTheSideThatPaid();
        runOutBeforeKept();
        tickAnswersAllThatRanOut();
        openWhileLocksAre();
        keptBrokenTorn();
        wordOfOnePromiseAlone();
        tellTwice();
        tellWhatIsNotOpen();
        tellNumbers();
        awayNumbers();
        promiseRefused();
        fortyEver();
        promiseAtBounds();
        promiseAtTells();
        check.end();
    }

    private static void due(String what, long got, long want) {
        check.due(what, got, want);
    }

    private static void dueSides(String what, PromiseChains x, int... sides) {
        for (int i = 0; i < sides.length; i++) {
            due(what + ": side " + i % 2 + " of " + i / 2, x.side(i / 2, i % 2), sides[i]);
        }
    }

    /** "THE TIME is 0 at first." "(THE TIME is one more)". */
    private static void timeIsZeroAtFirst() {
        PromiseChains x = new PromiseChains();
        due("0 at first", x.count(4), 0);
        x.tick(1);
        due("one more", x.count(4), 1);
        x.tick(60);
        due("sixty more", x.count(4), 61);
    }

    /** tick: "n TICKS (1 .. 60)", "BAD". */
    private static void ticksAreOneToSixty() {
        PromiseChains x = Scenes.two(5, 5);
        x.promise(0, 1, 1);
        for (int n : Scenes.BELOW) {
            due("tick(" + n + ")", x.tick(n), BAD);
        }
        for (int n : Scenes.ABOVE) {
            due("tick(" + n + ")", x.tick(n), BAD);
        }
        due("tick(0)", x.tick(0), BAD);
        due("tick(61)", x.tick(61), BAD);
        due("no time has gone", x.count(4), 0);
        due("nothing ran out", x.count(3), 1);
        due("tick(1)", x.tick(1), 0);
        due("tick(60)", x.tick(60), 1);
        due("61", x.count(4), 61);
    }

    /** "GAP (1 .. 50 ..)"; gap: "what it was", "BAD". */
    private static void gapIsOneToFifty() {
        PromiseChains x = new PromiseChains();
        for (int v : Scenes.BELOW) {
            due("gap(" + v + ")", x.gap(v), BAD);
        }
        for (int v : Scenes.ABOVE) {
            due("gap(" + v + ")", x.gap(v), BAD);
        }
        due("gap(0)", x.gap(0), BAD);
        due("gap(51)", x.gap(51), BAD);
        due("it stays", x.count(5), 3);
        due("gap(1)", x.gap(1), 3);
        due("gap(50)", x.gap(50), 1);
        due("gap(50) again", x.gap(50), 50);
        due("50", x.count(5), 50);
    }

    /** "GAP (.. 3 at first)". */
    private static void gapIsThreeAtFirst() {
        PromiseChains x = Scenes.two(5, 5);
        due("3", x.count(5), 3);
        x.promise(0, 1, 1);
        due("two ticks", x.tick(2), 0);
        due("the third", x.tick(1), 1);
    }

    /** "a CLOCK: that of the last PAIR is THE TIME and GAP". */
    private static void clockOfTheLastPair() {
        for (int gap : new int[] {1, 2, 49, 50}) {
            PromiseChains x = Scenes.two(5, 5);
            x.tick(7);
            x.gap(gap);
            x.promise(0, 1, 1);
            if (gap > 1) {
                due("one tick less than " + gap, x.tick(gap - 1), 0);
            }
            due("locked till then", x.locked(0, 0), 1);
            due("as many as " + gap, x.tick(1), 1);
            due("not locked any more", x.locked(0, 0), 0);
        }
    }

    /** "of each one ahead GAP more". */
    private static void eachAheadGapMore() {
        for (int gap : new int[] {1, 50}) {
            PromiseChains x = Scenes.row(7, 10);
            x.tick(5);
            x.gap(gap);
            x.promise(0, 6, 1);
            for (int pair = 5; pair >= 0; pair--) {
                if (gap > 1) {
                    due("nothing ahead of the clock of " + pair, x.tick(gap - 1), 0);
                }
                due("it is locked: " + pair, x.locked(pair, 0), 1);
                due("it runs out: " + pair, x.tick(1), 1);
                due("it is locked no more: " + pair, x.locked(pair, 0), 0);
                due("those ahead are", x.count(3), pair);
            }
        }
    }

    /** "THE TIME and GAP", as they are when it is promised. */
    private static void gapOfAPromiseStays() {
        PromiseChains x = Scenes.row(3, 10);
        x.gap(4);
        x.promise(0, 2, 1);
        x.gap(1);
        due("not at 1, 2, 3", x.tick(3), 0);
        due("at 4", x.tick(1), 1);
        x.gap(50);
        due("not at 5, 6, 7", x.tick(3), 0);
        due("at 8", x.tick(1), 1);
    }

    /** "d knows the WORD, when it is TOLD." */
    private static void wordIsKnownWhenTold() {
        PromiseChains x = Scenes.row(3, 10);
        x.promise(0, 2, 1);
        due("not told", x.promiseAt(0, 5), 0);
        x.away(2, true);
        due("back without the word", x.away(2, false), 0);
        x.away(1, true);
        due("nor does 1 know it", x.away(1, false), 0);
        x.tick(2);
        due("nothing is kept", x.promiseAt(0, 4), 0);
        due("told: both are", x.tell(0), 2);
        due("it is told", x.promiseAt(0, 5), 1);
    }

    /** "d knows the WORD, when it is TOLD": also if d is away, and keeps it till it is back. */
    private static void toldToWhoIsAway() {
        PromiseChains x = Scenes.row(3, 10);
        x.promise(0, 2, 1);
        x.away(2, true);
        due("told, nothing kept", x.tell(0), 0);
        due("it is told", x.promiseAt(0, 5), 1);
        due("it is open", x.promiseAt(0, 0), OPEN);
        due("not again", x.tell(0), NO);
        x.tick(2);
        due("back: both", x.away(2, false), 2);
    }

    /** "the PERSON who gets it .. is THERE". */
    private static void whoGetsIsThere() {
        for (int person = 1; person < 4; person++) {
            PromiseChains x = Scenes.row(4, 10);
            x.promise(0, 3, 1);
            x.away(person, true);
            due("kept behind " + person, x.tell(0), 3 - person);
            due("its own is not", x.side(person - 1, 1), 10);
            due("back: the rest", x.away(person, false), person);
            due("its own is", x.side(person - 1, 1), 11);
            due("kept", x.promiseAt(0, 0), KEPT);
        }
    }

    /** "the PERSON who gets it .. is THERE": who pays need not be. */
    private static void whoPaysMayBeAway() {
        PromiseChains x = Scenes.row(3, 10);
        x.promise(0, 2, 1);
        x.away(0, true);
        due("0 pays while away", x.tell(0), 2);
        x = Scenes.row(3, 10);
        x.promise(0, 2, 1);
        x.away(1, true);
        due("1 pays while away", x.tell(0), 1);
        due("and has not got it", x.wealth(1), 19);
    }

    /** "THE TIME is below its CLOCK". */
    private static void timeIsBelowTheClock() {
        PromiseChains x = Scenes.two(10, 10);
        x.promise(0, 1, 1);
        x.tick(2);
        due("one below: kept", x.tell(0), 1);
        x = Scenes.row(3, 10);
        x.promise(0, 2, 1);
        x.tick(3);
        due("at the clock of the last one: none", x.tell(0), 0);
        due("told all the same", x.promiseAt(0, 5), 1);
        due("none of the first, till it runs out", x.tick(3), 1);
        due("broken", x.promiseAt(0, 0), BROKEN);
        x = Scenes.two(10, 10);
        x.gap(1);
        x.promise(0, 1, 1);
        due("at once", x.tell(0), 1);
    }

    /** "THE TIME is below its CLOCK": that of each lock, be it the last one or one ahead. */
    private static void eachClockOnItsOwn() {
        PromiseChains x = Scenes.row(3, 10);
        x.promise(0, 2, 1);
        x.away(1, true);
        x.tell(0);
        x.tick(5);
        due("back one below the first clock", x.away(1, false), 1);
        due("kept", x.promiseAt(0, 0), KEPT);
        x = Scenes.row(3, 10);
        x.promise(0, 2, 1);
        x.away(1, true);
        x.tell(0);
        due("the first ran out", x.tick(6), 1);
        due("back at it", x.away(1, false), 0);
        due("torn", x.promiseAt(0, 0), TORN);
        dueSides("1 loses by it", x, 10, 10, 9, 11);
    }

    /** "the PERSON who paid it knows the WORD, too": it goes no further than locks are kept. */
    private static void whoPaidKnowsTheWord() {
        PromiseChains x = Scenes.row(5, 10);
        x.promise(0, 4, 1);
        x.away(2, true);
        due("3 and 4 get theirs", x.tell(0), 2);
        due("1 does not know it: back from nowhere", x.away(1, true), 0);
        due("1 back", x.away(1, false), 0);
        due("2 back: 2 and 1", x.away(2, false), 2);
        dueSides("all moved one", x, 9, 11, 9, 11, 9, 11, 9, 11);
    }

    /** "then it comes to the SIDE of that PERSON". */
    private static void comesToTheSideOfWhoGets() {
        PromiseChains x = Scenes.row(3, 10);
        x.fee(1, 2, 0);
        x.promise(2, 0, 5);
        due("turned: kept", x.tell(0), 2);
        dueSides("from b to a", x, 15, 5, 17, 3);
        due("nothing is locked", x.locked(1, 1) + x.locked(0, 1), 0);
        due("1 has the fee", x.wealth(1), 22);
    }

    /** "Whenever .. somebody comes back": any of those on the way; away: "how many LOCKS are KEPT by it". */
    private static void somebodyComesBack() {
        PromiseChains x = Scenes.row(5, 10);
        x.promise(0, 3, 1);
        x.away(1, true);
        x.away(2, true);
        x.away(4, true);
        due("3 gets it", x.tell(0), 1);
        due("4 is not of it", x.away(4, false), 0);
        due("1 does not know it yet", x.away(1, false), 0);
        due("2 frees both", x.away(2, false), 2);
        due("who goes frees none", x.away(2, true), 0);
        due("nothing is left", x.away(2, false), 0);
    }

    /** "all LOCKS that may be KEPT are, again and again till none is left". */
    private static void againAndAgain() {
        PromiseChains x = Scenes.row(7, 10);
        x.promise(0, 6, 1);
        due("all six", x.tell(0), 6);
        x.promise(6, 0, 1);
        x.away(0, true);
        due("none", x.tell(1), 0);
        due("all six on coming back", x.away(0, false), 6);
        dueSides("there and back", x, 10, 10, 10, 10, 10, 10, 10, 10, 10, 10, 10, 10);
    }

    /** "all LOCKS that may be KEPT are": of all promises. */
    private static void severalPromisesAtOnce() {
        PromiseChains x = Scenes.row(4, 10);
        x.promise(0, 2, 1);
        x.promise(3, 2, 2);
        x.promise(1, 2, 3);
        x.promise(0, 3, 4);
        x.away(2, true);
        due("told to 2", x.tell(0) + x.tell(1) + x.tell(2), 0);
        due("told to 3, who gets it", x.tell(3), 1);
        due("2 is back: 2 and 1 and 1 and 2", x.away(2, false), 6);
        dueSides("sides", x, 5, 15, 2, 18, 8, 12);
    }

    /** "or (behind what runs out) a TICK begins": by time alone nothing may be kept that might not ahead of it. */
    private static void aTickKeepsNothingOfItself() {
        PromiseChains x = Scenes.row(3, 10);
        x.promise(0, 2, 1);
        x.away(1, true);
        x.tell(0);
        due("nothing ran out", x.tick(1), 0);
        due("one kept", x.promiseAt(0, 4), 1);
        due("it is locked", x.locked(0, 0), 1);
    }

    /** "As a TICK begins .. LOCKS with that CLOCK or a lower one RUN OUT". */
    private static void runsOutAtTheClock() {
        PromiseChains x = Scenes.two(10, 10);
        x.promise(0, 1, 1);
        x.tick(1);
        x.promise(0, 1, 2);
        due("at 2", x.tick(1), 0);
        due("at 3 the first", x.tick(1), 1);
        due("the second is locked", x.locked(0, 0), 2);
        due("at 4 the second", x.tick(1), 1);
        due("none is left", x.tick(60), 0);
    }

    /** "they come back to the SIDE that paid". */
    private static void runsOutToTheSideThatPaid() {
        PromiseChains x = Scenes.row(3, 10);
        x.fee(1, 1, 0);
        x.promise(0, 2, 3);
        x.promise(2, 0, 5);
        dueSides("locked of both", x, 6, 5, 7, 4);
        due("both last ones", x.tick(3), 2);
        dueSides("those are back", x, 6, 10, 10, 4);
        due("both first ones", x.tick(3), 2);
        dueSides("all are back", x, 10, 10, 10, 10);
        due("nothing is locked", x.locked(0, 0) + x.locked(0, 1) + x.locked(1, 0) + x.locked(1, 1), 0);
    }

    /** "(As a TICK begins: first what RUNS OUT, then what is KEPT ..)". */
    private static void runOutBeforeKept() {
        PromiseChains x = Scenes.two(10, 10);
        x.away(1, true);
        x.promise(0, 1, 4);
        due("told to who is away", x.tell(0), 0);
        due("at its clock it runs out", x.tick(3), 1);
        due("none kept", x.promiseAt(0, 4), 0);
        due("back too late", x.away(1, false), 0);
        dueSides("as it was", x, 10, 10);
        due("broken, though told", x.promiseAt(0, 0), BROKEN);
    }

    /** tick: "how many LOCKS RAN OUT": of all its ticks, none that were kept. */
    private static void tickAnswersAllThatRanOut() {
        PromiseChains x = Scenes.row(7, 10);
        x.gap(10);
        x.promise(0, 6, 1);
        x.promise(0, 6, 1);
        x.tell(1);
        due("six clocks in one call", x.tick(60), 6);
        due("none is left", x.count(3), 0);
        x.promise(0, 6, 1);
        due("five of six in 59", x.tick(59), 5);
        due("the sixth", x.tick(1), 1);
    }

    /** "A PROMISE is OPEN while LOCKS of it are". */
    private static void openWhileLocksAre() {
        PromiseChains x = Scenes.row(4, 10);
        x.promise(0, 3, 1);
        due("three", x.promiseAt(0, 0), OPEN);
        x.tick(3);
        due("two", x.promiseAt(0, 0), OPEN);
        x.tick(3);
        due("one", x.promiseAt(0, 0), OPEN);
        x.tick(2);
        due("one still", x.promiseAt(0, 0), OPEN);
        x.tick(1);
        due("none", x.promiseAt(0, 0), BROKEN);
        x.promise(0, 3, 1);
        x.away(1, true);
        x.tell(1);
        due("two kept, one is", x.promiseAt(1, 0), OPEN);
        x.away(1, false);
        due("all kept", x.promiseAt(1, 0), KEPT);
    }

    /** "then it is KEPT (all were), BROKEN (none was), or TORN". */
    private static void keptBrokenTorn() {
        for (int person = 1; person < 5; person++) {
            PromiseChains x = Scenes.row(5, 10);
            x.promise(0, 4, 1);
            x.away(person, true);
            x.tell(0);
            x.tick(20);
            due("away was " + person, x.promiseAt(0, 0), person == 4 ? BROKEN : TORN);
            due("kept behind it", x.promiseAt(0, 4), 4 - person);
            due("had four", x.promiseAt(0, 3), 4);
        }
        PromiseChains x = Scenes.two(10, 10);
        x.promise(0, 1, 1);
        x.tell(0);
        x.tick(20);
        due("one lock kept", x.promiseAt(0, 0), KEPT);
        x.promise(0, 1, 1);
        x.tick(20);
        due("one lock broken", x.promiseAt(1, 0), BROKEN);
    }

    /** tell: "The WORD of a PROMISE": of no other one. */
    private static void wordOfOnePromiseAlone() {
        PromiseChains x = Scenes.row(3, 10);
        x.promise(0, 2, 1);
        x.promise(0, 2, 1);
        due("the second", x.tell(1), 2);
        due("the first is not told", x.promiseAt(0, 5), 0);
        due("nor kept", x.promiseAt(0, 4), 0);
        due("1 knows another word", x.away(1, true), 0);
        due("and not this one", x.away(1, false), 0);
        due("then the first", x.tell(0), 2);
    }

    /** tell: "NO: it is TOLD". */
    private static void tellTwice() {
        PromiseChains x = Scenes.row(3, 10);
        x.promise(0, 2, 1);
        x.away(1, true);
        due("told", x.tell(0), 1);
        due("told while open", x.tell(0), NO);
        x.away(1, false);
        due("told and kept", x.tell(0), NO);
    }

    /** tell: "NO: .. or not OPEN". */
    private static void tellWhatIsNotOpen() {
        PromiseChains x = Scenes.row(3, 10);
        x.promise(0, 2, 1);
        x.tick(5);
        due("one lock is left", x.promiseAt(0, 0), OPEN);
        x.tick(1);
        due("broken", x.tell(0), NO);
        due("it is not told", x.promiseAt(0, 5), 0);
        x.promise(0, 2, 1);
        x.tick(5);
        due("open till its last lock", x.tell(1), 0);
        due("it is told", x.promiseAt(1, 5), 1);
    }

    /** tell: "BAD". */
    private static void tellNumbers() {
        PromiseChains x = Scenes.two(10, 10);
        due("none yet", x.tell(0), BAD);
        x.promise(0, 1, 1);
        x.promise(0, 1, 1);
        for (int promise : Scenes.BELOW) {
            due("tell(" + promise + ")", x.tell(promise), BAD);
        }
        for (int promise : Scenes.ABOVE) {
            due("tell(" + promise + ")", x.tell(promise), BAD);
        }
        due("one behind the last", x.tell(2), BAD);
        due("fortieth", x.tell(39), BAD);
        due("forty-first", x.tell(40), BAD);
        due("the last", x.tell(1), 1);
        due("the first", x.tell(0), 1);
    }

    /** away: "BAD; NO: it is so." */
    private static void awayNumbers() {
        PromiseChains x = new PromiseChains();
        for (int person : Scenes.BELOW) {
            due("away(" + person + ")", x.away(person, true), BAD);
            due("back(" + person + ")", x.away(person, false), BAD);
        }
        for (int person : Scenes.ABOVE) {
            due("away(" + person + ")", x.away(person, true), BAD);
            due("back(" + person + ")", x.away(person, false), BAD);
        }
        due("is there", x.away(1, false), NO);
        due("goes", x.away(1, true), 0);
        due("one is away", x.count(7), 1);
        due("is away", x.away(1, true), NO);
        due("0 is there", x.away(0, false), NO);
        due("comes back", x.away(1, false), 0);
        due("is there again", x.away(1, false), NO);
        due("nobody is away", x.count(7), 0);
    }

    /** promise: "NO: there is none, or s is AWAY". */
    private static void promiseRefused() {
        PromiseChains x = Scenes.row(3, 10);
        due("none with so much", x.promise(0, 2, 11), NO);
        due("as much as there is", x.promise(0, 2, 10), 0);
        due("nothing is left", x.promise(0, 2, 1), NO);
        x.tick(9);
        x.away(0, true);
        due("s is away", x.promise(0, 2, 1), NO);
        due("s is not away", x.promise(1, 2, 1), 1);
        due("d is away", x.promise(1, 0, 1), 2);
        due("d is away behind another one", x.promise(2, 0, 1), 3);
        x.away(0, false);
        due("s is back", x.promise(0, 2, 1), 4);
        due("five", x.count(2), 5);
    }

    /** promise: "FULL: 40 ever": those that are over count. */
    private static void fortyEver() {
        PromiseChains x = Scenes.two(100, 100);
        for (int i = 0; i < 40; i++) {
            due("promise " + i, x.promise(i % 2, 1 - i % 2, 1), i);
            if (i % 4 < 2) {
                x.tell(i);
            } else {
                x.tick(3);
            }
        }
        due("all are over", x.count(3), 0);
        due("forty", x.count(2), 40);
        due("no more", x.promise(0, 1, 1), FULL);
        due("forty still", x.count(2), 40);
        due("nothing is locked", x.locked(0, 0), 0);
        due("the fortieth is", x.promiseAt(39, 1), 1);
        due("number 40 is not", x.promiseAt(40, 1), BAD);
        due("best goes on", x.best(0, 1, 1), 1);
    }

    /** promiseAt: "BAD". */
    private static void promiseAtBounds() {
        PromiseChains x = Scenes.two(10, 10);
        due("none yet", x.promiseAt(0, 0), BAD);
        x.promise(1, 0, 4);
        for (int v : Scenes.BELOW) {
            due("promiseAt(" + v + ", 0)", x.promiseAt(v, 0), BAD);
            due("promiseAt(0, " + v + ")", x.promiseAt(0, v), BAD);
        }
        for (int v : Scenes.ABOVE) {
            due("promiseAt(" + v + ", 0)", x.promiseAt(v, 0), BAD);
            due("promiseAt(0, " + v + ")", x.promiseAt(0, v), BAD);
        }
        due("one behind the last promise", x.promiseAt(1, 0), BAD);
        due("one behind the last what", x.promiseAt(0, 7), BAD);
        due("the last what", x.promiseAt(0, 6), 1);
        due("the first what", x.promiseAt(0, 0), OPEN);
    }

    /** promiseAt: "0 OPEN, 1 KEPT, 2 BROKEN, 3 TORN" and what else it tells, of one of each. */
    private static void promiseAtTells() {
        PromiseChains x = Scenes.row(4, 200);
        x.fee(1, 0, 100);
        x.fee(2, 3, 0);
        x.promise(3, 0, 20);
        dueAt(x, 0, OPEN, 20, 25, 3, 0, 0, 3);
        x.fee(1, 9, 9);
        x.away(1, true);
        x.tell(0);
        dueAt(x, 0, OPEN, 20, 25, 3, 1, 1, 3);
        x.away(1, false);
        dueAt(x, 0, KEPT, 20, 25, 3, 3, 1, 3);
        x.promise(3, 0, 20);
        x.away(2, true);
        x.tell(1);
        x.promise(1, 2, 7);
        dueAt(x, 1, OPEN, 20, 32, 3, 2, 1, 3);
        x.tick(20);
        dueAt(x, 1, TORN, 20, 32, 3, 2, 1, 3);
        dueAt(x, 2, BROKEN, 7, 7, 1, 0, 0, 1);
        dueAt(x, 0, KEPT, 20, 25, 3, 3, 1, 3);
    }

    private static void dueAt(PromiseChains x, int promise, int... want) {
        for (int what = 0; what < want.length; what++) {
            due("promiseAt(" + promise + ", " + what + ")", x.promiseAt(promise, what), want[what]);
        }
    }
}
