/** Terms 3, promises 6 and 14 to 19: each sentence that names a boundary case, above the test of it. */
public final class ClosingEdgeTest {
    private static final int NONE = Scenes.NONE, BAD = Scenes.BAD, NO = Scenes.NO;
    private static final int OPEN = 0, CLOSING = 1, CLOSED = 2;
    private static final Check check = new Check();

    public static void main(String[] args) {
        stateZeroIsAsItCame();
        keptLocksMakeStates();
        nothingElseMakesStates();
        lockedCountsToWhoPaid();
        lockedCountsOnEachPair();
        eachLockOneMore();
        eachRingOneMore();
        sixtyFourAtMost();
        lockBecomesTheLastOne();
        ringBecomesTheLastOne();
        closedByTheSixtyFourth();
        lookIsOneToFifty();
        lookIsFiveAtFirst();
        closingTillEnd();
        lookOfAClosingStays();
        closedByOneOfItOnly();
        closedByAStateThatIs();
        notWithLocks();
        notTwice();
        notByWhoIsAway();
        oldStateSeenAtOnce();
        oldStateSeenOnEachPair();
        oldStateSeenOnComingBack();
        oldStateNotSeen();
        backAtTheEndIsTooLate();
        latestStateIsLetBe();
        oldByItsNumber();
        onlyTheOtherOneSees();
        severalClosingsOfOne();
        eachGetsItsSideOfTheToldState();
        closedHasNoSides();
        closingHasItsSides();
        sideAndLockedBounds();
        aboutBounds();
        aboutTells();
        stateAtBounds();
        closeNumbers();
        wealthBounds();
        wealthCountsAll();
        check.end();
    }

    private static void due(String what, long got, long want) {
        check.due(what, got, want);
    }

    private static void dueState(PromiseChains x, int pair, int i, int sideA, int sideB) {
        due("state " + i + " of " + pair + ", a", x.stateAt(pair, i, 0), sideA);
        due("state " + i + " of " + pair + ", b", x.stateAt(pair, i, 1), sideB);
    }

    /** 0 and 1 with 50 each; 0 has paid 10: state 0 is 50/50, state 1 is 40/60. */
    private static PromiseChains paidTen() {
        PromiseChains x = Scenes.two(50, 50);
        Scenes.pay(x, 0, 1, 10);
        return x;
    }

    /** "STATES, numbered from 0 on: both SIDES as it came". */
    private static void stateZeroIsAsItCame() {
        int[][] sides = {{0, 0}, {100000, 100000}, {0, 7}, {7, 0}};
        for (int[] v : sides) {
            PromiseChains x = Scenes.two(v[0], v[1]);
            due("one state", x.about(0, 3), 1);
            dueState(x, 0, 0, v[0], v[1]);
            due("no state 1", x.stateAt(0, 1, 0), NONE);
        }
    }

    /** "behind each LOCK that was KEPT on it .. one more". */
    private static void keptLocksMakeStates() {
        PromiseChains x = Scenes.row(3, 50);
        x.promise(0, 2, 10);
        x.away(1, true);
        x.tell(0);
        due("pair 1 has another one", x.about(1, 3), 2);
        dueState(x, 1, 1, 40, 60);
        due("pair 0 has none", x.about(0, 3), 1);
        x.away(1, false);
        due("pair 0 has another one", x.about(0, 3), 2);
        dueState(x, 0, 1, 40, 60);
        dueState(x, 0, 0, 50, 50);
    }

    /** "behind each LOCK that was KEPT on it .. and each ring": not behind what is locked, runs out, is tried, closes. */
    private static void nothingElseMakesStates() {
        PromiseChains x = Scenes.row(3, 50);
        x.promise(0, 2, 10);
        due("locked", x.about(0, 3), 1);
        x.tick(9);
        due("run out", x.about(0, 3), 1);
        x.tries(20);
        due("tried", x.about(0, 3), 1);
        due("no ring", x.even(), NO);
        due("none of it", x.about(0, 3), 1);
        x.close(0, 0, 0);
        due("closing", x.about(0, 3), 1);
        x.tick(5);
        due("closed", x.about(0, 3), 1);
    }

    /** "(what is LOCKED counted to the SIDE it was paid from)". */
    private static void lockedCountsToWhoPaid() {
        PromiseChains x = Scenes.two(50, 40);
        x.promise(0, 1, 5);
        x.promise(0, 1, 6);
        x.promise(1, 0, 11);
        x.promise(1, 0, 12);
        x.tell(0);
        dueState(x, 0, 1, 45, 45);
        x.tell(3);
        dueState(x, 0, 2, 57, 33);
        x.tick(3);
        due("a", x.side(0, 0), 57);
        due("b", x.side(0, 1), 33);
        due("no state of what ran out", x.about(0, 3), 3);
    }

    /** "(what is LOCKED counted to the SIDE it was paid from)": of that pair, not of another one. */
    private static void lockedCountsOnEachPair() {
        PromiseChains x = Scenes.row(5, 50);
        for (int pair = 0; pair < 4; pair++) {
            x.promise(pair, pair + 1, 3 + pair);
            x.promise(pair + 1, pair, 13 + pair);
        }
        for (int pair = 0; pair < 4; pair++) {
            due("one lock", x.promise(pair, pair + 1, 1), 8 + pair);
            due("kept", x.tell(8 + pair), 1);
            dueState(x, pair, 1, 49, 51);
            dueState(x, pair, 0, 50, 50);
        }
    }

    /** "behind each LOCK": two that are kept by one call make two states. */
    private static void eachLockOneMore() {
        PromiseChains x = Scenes.two(50, 50);
        x.promise(0, 1, 5);
        x.promise(0, 1, 6);
        x.away(1, true);
        x.tell(0);
        x.tell(1);
        due("both", x.away(1, false), 2);
        due("three states", x.about(0, 3), 3);
        dueState(x, 0, 1, 45, 55);
        dueState(x, 0, 2, 39, 61);
    }

    /** "and each ring, one more": on each pair of it, on no other one. */
    private static void eachRingOneMore() {
        PromiseChains x = new PromiseChains();
        x.people(4);
        x.pair(0, 1, 40, 20);
        x.pair(1, 2, 40, 20);
        x.pair(2, 0, 40, 20);
        x.pair(2, 3, 90, 10);
        due("a ring of 10", x.even(), 10);
        for (int pair = 0; pair < 3; pair++) {
            due("two states", x.about(pair, 3), 2);
            dueState(x, pair, 1, 30, 30);
            dueState(x, pair, 0, 40, 20);
        }
        due("not of it", x.about(3, 3), 1);
    }

    /** Pair 0 with 63 states, the latest one 51/49; a payment over 0 and a ring in turn. */
    private static PromiseChains sixtyThree() {
        PromiseChains x = Scenes.triangle(50, 50, 6, 0, 50, 50);
        for (int i = 0; i < 31; i++) {
            int s = 1 + i % 2;
            due("payment over 0", Scenes.pay(x, s, 3 - s, 7), 2);
            due("ring", x.even(), 6);
        }
        due("sixty-three", x.about(0, 3), 63);
        dueState(x, 0, 62, 51, 49);
        due("no state 63", x.stateAt(0, 63, 0), NONE);
        due("nor to close by", x.close(0, 0, 63), BAD);
        return x;
    }

    /** "64 at most". */
    private static void sixtyFourAtMost() {
        PromiseChains x = sixtyThree();
        Scenes.pay(x, 2, 1, 7);
        due("sixty-four", x.about(0, 3), 64);
        dueState(x, 0, 63, 44, 56);
        dueState(x, 0, 62, 51, 49);
        x.even();
        Scenes.pay(x, 1, 2, 7);
        due("not more", x.about(0, 3), 64);
        due("no state 64", x.stateAt(0, 64, 0), NONE);
        due("no state 64 of b", x.stateAt(0, 64, 1), NONE);
        due("pair 2 has as many", x.about(2, 3), 64);
        due("pair 1 has those of rings", x.about(1, 3), 33);
        dueState(x, 1, 0, 6, 0);
    }

    /** "(from then on the last one becomes the newest)": behind a lock. */
    private static void lockBecomesTheLastOne() {
        PromiseChains x = sixtyThree();
        Scenes.pay(x, 2, 1, 7);
        Scenes.pay(x, 1, 2, 9);
        due("sixty-four", x.about(0, 3), 64);
        dueState(x, 0, 63, 53, 47);
        dueState(x, 0, 62, 51, 49);
        dueState(x, 0, 61, 57, 43);
        dueState(x, 0, 0, 50, 50);
        Scenes.pay(x, 1, 2, 3);
        dueState(x, 0, 63, 56, 44);
        dueState(x, 0, 62, 51, 49);
    }

    /** "(from then on the last one becomes the newest)": behind a ring. */
    private static void ringBecomesTheLastOne() {
        PromiseChains x = sixtyThree();
        Scenes.pay(x, 2, 1, 7);
        dueState(x, 0, 63, 44, 56);
        due("a ring", x.even(), 6);
        due("sixty-four", x.about(0, 3), 64);
        dueState(x, 0, 63, 50, 50);
        dueState(x, 0, 62, 51, 49);
    }

    /** "64 at most": the last one is the latest to close by, the one ahead is old. */
    private static void closedByTheSixtyFourth() {
        PromiseChains x = sixtyThree();
        Scenes.pay(x, 2, 1, 7);
        Scenes.pay(x, 1, 2, 9);
        due("no state 64", x.close(0, 0, 64), BAD);
        due("the latest one", x.close(0, 0, 63), 1);
        due("an old one", x.close(2, 0, 62), 2);
        x.tick(5);
        due("0 has its side of the newest", x.wealth(0), 53);
        due("1 has its own and of pair 1", x.wealth(1), 47);
    }

    /** "LOOK (1 .. 50 ..)"; look: "what it was", "BAD". */
    private static void lookIsOneToFifty() {
        PromiseChains x = new PromiseChains();
        for (int v : Scenes.BELOW) {
            due("look(" + v + ")", x.look(v), BAD);
        }
        for (int v : Scenes.ABOVE) {
            due("look(" + v + ")", x.look(v), BAD);
        }
        due("look(0)", x.look(0), BAD);
        due("look(51)", x.look(51), BAD);
        due("it stays", x.count(6), 5);
        due("look(1)", x.look(1), 5);
        due("look(50)", x.look(50), 1);
        due("look(50) again", x.look(50), 50);
        due("50", x.count(6), 50);
    }

    /** "LOOK (.. 5 at first)". */
    private static void lookIsFiveAtFirst() {
        PromiseChains x = Scenes.two(5, 5);
        due("5", x.count(6), 5);
        x.close(0, 0, 0);
        due("end", x.about(0, 4), 5);
        x.tick(4);
        due("four ticks", x.about(0, 2), CLOSING);
        x.tick(1);
        due("the fifth", x.about(0, 2), CLOSED);
    }

    /** "it is CLOSING till THE TIME then is END, that is THE TIME now and LOOK". */
    private static void closingTillEnd() {
        for (int look : new int[] {1, 2, 50}) {
            PromiseChains x = Scenes.two(5, 6);
            x.tick(11);
            x.look(look);
            due("closes", x.close(0, 1, 0), 1);
            due("end", x.about(0, 4), 11 + look);
            if (look > 1) {
                x.tick(look - 1);
            }
            due("closing one ahead of it", x.about(0, 2), CLOSING);
            due("end still", x.about(0, 4), 11 + look);
            due("its side is", x.side(0, 1), 6);
            x.tick(1);
            due("closed at it", x.about(0, 2), CLOSED);
            due("no end", x.about(0, 4), NONE);
        }
    }

    /** "THE TIME now and LOOK", as it is when it closes. */
    private static void lookOfAClosingStays() {
        PromiseChains x = Scenes.two(5, 6);
        x.look(4);
        x.close(0, 0, 0);
        x.look(1);
        x.tick(3);
        due("not sooner", x.about(0, 2), CLOSING);
        x.look(50);
        x.tick(1);
        due("nor later", x.about(0, 2), CLOSED);
    }

    /** "A PERSON of .. PAIR"; close: "BAD: also a PERSON not of it". */
    private static void closedByOneOfItOnly() {
        PromiseChains x = Scenes.row(7, 5);
        for (int pair = 0; pair < 6; pair++) {
            for (int person = 0; person < 7; person++) {
                if (person != pair && person != pair + 1) {
                    due(person + " is not of " + pair, x.close(pair, person, 0), BAD);
                }
            }
            due("still open", x.about(pair, 2), OPEN);
        }
        due("a", x.close(0, 0, 0), 1);
        due("b", x.close(1, 2, 0), 1);
    }

    /** "by one of its STATES"; close: "BAD: .. no such STATE". */
    private static void closedByAStateThatIs() {
        PromiseChains x = Scenes.row(3, 50);
        Scenes.pay(x, 0, 1, 10);
        due("no state 2", x.close(0, 0, 2), BAD);
        due("no state below 0", x.close(0, 0, -1), BAD);
        due("no state 1 of the other pair", x.close(1, 1, 1), BAD);
        due("open", x.about(0, 2), OPEN);
        due("state 1", x.close(0, 0, 1), 1);
        due("state 0 of the other pair", x.close(1, 1, 0), 1);
    }

    /** "an open PAIR without LOCKS"; close: "NO: .. it has LOCKS". */
    private static void notWithLocks() {
        for (int s = 0; s < 2; s++) {
            PromiseChains x = Scenes.two(5, 5);
            x.promise(s, 1 - s, 1);
            due("a lock of " + s + ": 0 closes", x.close(0, 0, 0), NO);
            due("a lock of " + s + ": 1 closes", x.close(0, 1, 0), NO);
            due("open", x.about(0, 2), OPEN);
            x.tick(2);
            due("still a lock", x.close(0, 0, 0), NO);
            x.tick(1);
            due("no lock", x.close(0, 0, 0), 1);
        }
        PromiseChains x = Scenes.row(3, 5);
        x.promise(0, 2, 1);
        x.away(1, true);
        x.tell(0);
        due("kept: no lock", x.close(1, 2, 1), 1);
        due("a lock waits for 1", x.close(0, 0, 0), NO);
    }

    /** close: "NO: not open". */
    private static void notTwice() {
        PromiseChains x = Scenes.two(5, 5);
        x.close(0, 0, 0);
        x.tick(1);
        due("closing", x.close(0, 0, 0), NO);
        due("closing, by the other one", x.close(0, 1, 0), NO);
        due("its end stays", x.about(0, 4), 5);
        x.tick(4);
        due("closed", x.close(0, 0, 0), NO);
        due("closed, by the other one", x.close(0, 1, 0), NO);
        due("closed still", x.about(0, 2), CLOSED);
        due("no more cash", x.wealth(0), 5);
        due("no such state of a closed one", x.close(0, 0, 1), BAD);
    }

    /** close: "NO: .. who CLOSES is AWAY". */
    private static void notByWhoIsAway() {
        for (int person = 0; person < 2; person++) {
            PromiseChains x = Scenes.two(5, 5);
            x.away(person, true);
            due("away", x.close(0, person, 0), NO);
            due("open", x.about(0, 2), OPEN);
            due("the other one is there", x.close(0, 1 - person, 0), 1);
        }
    }

    /** "If the STATE is not the latest one, and the other PERSON is THERE (at once ..)"; close: "2". */
    private static void oldStateSeenAtOnce() {
        for (int person = 0; person < 2; person++) {
            PromiseChains x = paidTen();
            due("seen", x.close(0, person, 0), 2);
            due("closed", x.about(0, 2), CLOSED);
            due("no end", x.about(0, 4), NONE);
            due("who closed has nothing", x.wealth(person), 0);
            due("the other one both sides", x.wealth(1 - person), 100);
            x.tick(5);
            due("and nothing comes behind it", x.wealth(person), 0);
            due("nor for the other one", x.wealth(1 - person), 100);
        }
    }

    /** "the other PERSON is THERE": that of this pair, be all others away or there. */
    private static void oldStateSeenOnEachPair() {
        for (int pair = 0; pair < 6; pair++) {
            for (int which = 0; which < 2; which++) {
                PromiseChains x = Scenes.row(7, 50);
                Scenes.pay(x, pair, pair + 1, 10);
                int who = pair + which;
                int other = pair + 1 - which;
                x.away(other, true);
                due("the other one alone is away", x.close(pair, who, 0), 1);
                x.away(other, false);
                due("it is back", x.about(pair, 2), CLOSED);
                x = Scenes.row(7, 50);
                Scenes.pay(x, pair, pair + 1, 10);
                for (int person = 0; person < 7; person++) {
                    if (person != who && person != other) {
                        x.away(person, true);
                    }
                }
                due("all others are away", x.close(pair, who, 0), 2);
                int next = other == 0 || other == 6 ? 0 : 50;
                due("it has all", x.wealth(other), 100 + next);
            }
        }
    }

    /** "(.. or as it comes back .. ahead of END)": at once, and one tick ahead of it. */
    private static void oldStateSeenOnComingBack() {
        for (int ticks = 0; ticks < 5; ticks++) {
            PromiseChains x = paidTen();
            x.away(1, true);
            due("not seen", x.close(0, 0, 0), 1);
            due("closing", x.about(0, 2), CLOSING);
            if (ticks > 0) {
                x.tick(ticks);
            }
            due("nothing kept by it", x.away(1, false), 0);
            due("closed", x.about(0, 2), CLOSED);
            due("0 has nothing", x.wealth(0), 0);
            due("1 has all", x.wealth(1), 100);
            x.tick(60);
            due("it stays so", x.wealth(0), 0);
        }
    }

    /** "Else, as the TICK of END begins, each gets its SIDE of the told STATE as CASH". */
    private static void oldStateNotSeen() {
        PromiseChains x = paidTen();
        x.away(1, true);
        x.close(0, 0, 0);
        x.tick(4);
        due("0 has 40 yet", x.wealth(0), 40);
        x.tick(1);
        due("0 has 50", x.wealth(0), 50);
        due("1 loses by it", x.wealth(1), 50);
        due("closed", x.about(0, 2), CLOSED);
    }

    /** "ahead of END": who comes back at END, or behind it, has what the told state gives. */
    private static void backAtTheEndIsTooLate() {
        for (int ticks = 5; ticks < 7; ticks++) {
            PromiseChains x = paidTen();
            x.away(1, true);
            x.close(0, 0, 0);
            x.tick(ticks);
            due("back", x.away(1, false), 0);
            due("0 keeps 50", x.wealth(0), 50);
            due("1 keeps 50", x.wealth(1), 50);
        }
        PromiseChains x = paidTen();
        x.look(1);
        x.away(1, true);
        x.close(0, 0, 0);
        x.tick(1);
        x.away(1, false);
        due("at once too late", x.wealth(1), 50);
    }

    /** "If the STATE is not the latest one": the latest one is let be, whoever is there. */
    private static void latestStateIsLetBe() {
        PromiseChains x = paidTen();
        due("the other one is there", x.close(0, 0, 1), 1);
        x.away(1, true);
        x.tick(2);
        due("it comes back", x.away(1, false), 0);
        due("closing still", x.about(0, 2), CLOSING);
        x.tick(2);
        due("one ahead of the end", x.about(0, 2), CLOSING);
        x.tick(1);
        due("closed", x.about(0, 2), CLOSED);
        due("0 has 40", x.wealth(0), 40);
        due("1 has 60", x.wealth(1), 60);
    }

    /** "not the latest one": one of the same sides is not the latest one either. */
    private static void oldByItsNumber() {
        PromiseChains x = paidTen();
        Scenes.pay(x, 1, 0, 10);
        dueState(x, 0, 0, 50, 50);
        dueState(x, 0, 2, 50, 50);
        due("state 0 is old", x.close(0, 0, 0), 2);
        x = paidTen();
        Scenes.pay(x, 1, 0, 10);
        due("state 1 is old", x.close(0, 0, 1), 2);
        x = paidTen();
        Scenes.pay(x, 1, 0, 10);
        due("state 2 is the latest", x.close(0, 0, 2), 1);
    }

    /** "the other PERSON": not who closed, nor a third one. */
    private static void onlyTheOtherOneSees() {
        PromiseChains x = Scenes.row(3, 50);
        Scenes.pay(x, 0, 1, 10);
        x.away(1, true);
        x.away(2, true);
        x.close(0, 0, 0);
        x.away(2, false);
        due("a third one is back", x.about(0, 2), CLOSING);
        x.away(0, true);
        x.away(0, false);
        due("who closed is back", x.about(0, 2), CLOSING);
        x.away(0, true);
        x.tick(1);
        x.away(1, false);
        due("the other one is back, though who closed is away", x.about(0, 2), CLOSED);
        due("it has all", x.wealth(1), 150);
        due("who closed nothing", x.wealth(0), 0);
    }

    /** "(First LOCKS, then closings.)" "closings, by PAIRS": one who comes back sees all that are against it. */
    private static void severalClosingsOfOne() {
        PromiseChains x = Scenes.row(4, 50);
        x.pair(3, 1, 50, 50);
        Scenes.pay(x, 0, 1, 10);
        Scenes.pay(x, 2, 1, 10);
        x.promise(3, 1, 5);
        x.away(1, true);
        x.tell(2);
        due("over pair 3", x.locked(3, 0), 5);
        x.close(0, 0, 0);
        x.close(1, 2, 0);
        due("one lock kept", x.away(1, false), 1);
        due("pair 0", x.about(0, 2), CLOSED);
        due("pair 1", x.about(1, 2), CLOSED);
        due("all of both, and its side", x.wealth(1), 100 + 100 + 55);
    }

    /** "each gets its SIDE of the told STATE": a and b, be it more or less than the latest. */
    private static void eachGetsItsSideOfTheToldState() {
        for (int state = 0; state < 3; state++) {
            PromiseChains x = Scenes.two(50, 30);
            Scenes.pay(x, 0, 1, 10);
            Scenes.pay(x, 1, 0, 25);
            x.away(0, true);
            due("closes", x.close(0, 1, state), 1);
            due("wealth is that of the latest one yet", x.wealth(0), 65);
            x.tick(5);
            int[] sides = {50, 40, 65};
            due("a's of state " + state, x.wealth(0), sides[state]);
            due("b's of state " + state, x.wealth(1), 80 - sides[state]);
        }
    }

    /** "The SIDES of a CLOSED PAIR are 0." */
    private static void closedHasNoSides() {
        PromiseChains x = paidTen();
        x.close(0, 1, 0);
        due("seen: a", x.side(0, 0), 0);
        due("seen: b", x.side(0, 1), 0);
        x = paidTen();
        x.close(0, 1, 1);
        x.tick(5);
        due("at the end: a", x.side(0, 0), 0);
        due("at the end: b", x.side(0, 1), 0);
        due("locked a", x.locked(0, 0), 0);
        due("locked b", x.locked(0, 1), 0);
        due("off", x.off(), 0);
        due("states stay", x.about(0, 3), 2);
        dueState(x, 0, 1, 40, 60);
    }

    /** "(of CLOSING PAIRS, too)": their sides are, till they are closed. */
    private static void closingHasItsSides() {
        PromiseChains x = paidTen();
        x.close(0, 1, 1);
        due("a", x.side(0, 0), 40);
        due("b", x.side(0, 1), 60);
        due("wealth", x.wealth(1), 60);
        x.tick(4);
        due("a still", x.side(0, 0), 40);
        x.tick(1);
        due("wealth is the same as cash", x.wealth(1), 60);
    }

    /** side, locked: "of a (0), b (1). BAD." */
    private static void sideAndLockedBounds() {
        PromiseChains x = Scenes.two(7, 9);
        for (int[] some : new int[][] {Scenes.BELOW, Scenes.ABOVE, {1, 11, 12}}) {
            for (int v : some) {
                due("side(" + v + ", 0)", x.side(v, 0), BAD);
                due("side(" + v + ", 1)", x.side(v, 1), BAD);
                due("locked(" + v + ", 0)", x.locked(v, 0), BAD);
                due("locked(" + v + ", 1)", x.locked(v, 1), BAD);
                if (v != 1) {
                    due("side(0, " + v + ")", x.side(0, v), BAD);
                    due("locked(0, " + v + ")", x.locked(0, v), BAD);
                }
            }
        }
        due("side(0, 2)", x.side(0, 2), BAD);
        due("locked(0, 2)", x.locked(0, 2), BAD);
        due("side(0, 0)", x.side(0, 0), 7);
        due("side(0, 1)", x.side(0, 1), 9);
        due("locked(0, 0)", x.locked(0, 0), 0);
        due("locked(0, 1)", x.locked(0, 1), 0);
    }

    /** about: "BAD". */
    private static void aboutBounds() {
        PromiseChains x = Scenes.two(7, 9);
        for (int[] some : new int[][] {Scenes.BELOW, Scenes.ABOVE, {5, 6, 11, 12}}) {
            for (int v : some) {
                due("about(" + v + ", 0)", x.about(v, 0), BAD);
                due("about(0, " + v + ")", x.about(0, v), BAD);
            }
        }
        due("one behind the last pair", x.about(1, 4), BAD);
        due("the first what", x.about(0, 0), 0);
        due("the last what", x.about(0, 4), NONE);
    }

    /** about: "whether it is open (0), CLOSING (1), CLOSED (2)", "END (NONE: it is not CLOSING)". */
    private static void aboutTells() {
        PromiseChains x = Scenes.row(7, 5);
        x.tick(9);
        dueAbout(x, 5, 6, OPEN, 1, NONE);
        Scenes.pay(x, 5, 6, 1);
        x.close(5, 6, 1);
        dueAbout(x, 5, 6, CLOSING, 2, 14);
        x.tick(5);
        dueAbout(x, 5, 6, CLOSED, 2, NONE);
    }

    private static void dueAbout(PromiseChains x, int... want) {
        for (int what = 0; what < want.length; what++) {
            due("about(5, " + what + ")", x.about(5, what), want[what]);
        }
    }

    /** stateAt: "NONE: not so many. BAD: also i below 0." */
    private static void stateAtBounds() {
        PromiseChains x = paidTen();
        for (int i : Scenes.BELOW) {
            due("stateAt(0, " + i + ", 0)", x.stateAt(0, i, 0), BAD);
            due("stateAt(" + i + ", 0, 0)", x.stateAt(i, 0, 0), BAD);
            due("stateAt(0, 0, " + i + ")", x.stateAt(0, 0, i), BAD);
        }
        for (int i : Scenes.ABOVE) {
            due("stateAt(0, " + i + ", 1)", x.stateAt(0, i, 1), NONE);
            due("stateAt(" + i + ", 0, 0)", x.stateAt(i, 0, 0), BAD);
            due("stateAt(0, 0, " + i + ")", x.stateAt(0, 0, i), BAD);
        }
        due("the latest one", x.stateAt(0, 1, 1), 60);
        due("one behind it", x.stateAt(0, 2, 1), NONE);
        due("sixty-third", x.stateAt(0, 63, 1), NONE);
        due("sixty-fourth", x.stateAt(0, 64, 1), NONE);
        due("which 2", x.stateAt(0, 0, 2), BAD);
        due("which 2 of none", x.stateAt(0, 2, 2), BAD);
        due("pair 1", x.stateAt(1, 0, 0), BAD);
        due("none of pair 1", x.stateAt(1, 9, 0), BAD);
    }

    /** close: "BAD". */
    private static void closeNumbers() {
        PromiseChains x = Scenes.two(7, 9);
        for (int[] some : new int[][] {Scenes.BELOW, Scenes.ABOVE, {2, 7, 12, 63, 64}}) {
            for (int v : some) {
                due("close(" + v + ", 0, 0)", x.close(v, 0, 0), BAD);
                due("close(0, " + v + ", 0)", x.close(0, v, 0), BAD);
                due("close(0, 0, " + v + ")", x.close(0, 0, v), BAD);
            }
        }
        due("one behind the last pair", x.close(1, 0, 0), BAD);
        due("one behind the last state", x.close(0, 0, 1), BAD);
        due("open", x.about(0, 2), OPEN);
    }

    /** wealth: "BAD". */
    private static void wealthBounds() {
        PromiseChains x = Scenes.two(7, 9);
        for (int[] some : new int[][] {Scenes.BELOW, Scenes.ABOVE, {2, 6, 7}}) {
            for (int v : some) {
                due("wealth(" + v + ")", x.wealth(v), BAD);
            }
        }
        due("the first", x.wealth(0), 7);
        due("the last", x.wealth(1), 9);
    }

    /** wealth: "CASH of a PERSON, and all its SIDES, with what is LOCKED of them (of CLOSING PAIRS, too)". */
    private static void wealthCountsAll() {
        PromiseChains x = new PromiseChains();
        x.people(3);
        x.pair(0, 1, 1, 2);
        x.pair(1, 0, 4, 8);
        x.pair(0, 2, 16, 32);
        x.pair(2, 0, 64, 128);
        x.close(0, 1, 0);
        x.tick(5);
        x.close(1, 1, 0);
        x.promise(0, 2, 15);
        x.promise(0, 2, 100);
        x.promise(2, 0, 64);
        due("cash 1, closing 8, open 16 and 128", x.wealth(0), 153);
        due("cash 2, closing 4", x.wealth(1), 6);
        due("open 32 and 64", x.wealth(2), 96);
        due("three locks", x.count(3), 3);
    }
}
