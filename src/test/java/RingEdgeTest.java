/** Terms 4, promises 20 to 24: each sentence that names a boundary case, above the test of it. */
public final class RingEdgeTest {
    private static final int NONE = Scenes.NONE, BAD = Scenes.BAD, NO = Scenes.NO;
    private static final Check check = new Check();

    public static void main(String[] args) {
        offOverOpenPairs();
        offIsOfSizes();
        threePairsOrMore();
        sevenPairsAtMost();
        ringOverOpenPairs();
        ringWithoutLocks();
        ringLeadsRound();
        ringMeetsNobodyTwice();
        ringMeetsNotItsSecondTwice();
        mIsOneOn();
        noSideBelowZero();
        lessThanItWas();
        leastOffIsFirst();
        leastOffByUnlikePairs();
        thenLeastM();
        thenFewestPairs();
        thenFirstByTheRow();
        rowIsToldFromTheLeast();
        bothWaysRound();
        ringBounds();
        ringIsOnlyTold();
        evenMakesIt();
        evenOfNone();
        awayPeopleAreOnRings();
        learntAtFirst();
        learntAnewWhenASideChanges();
        learntStaysElse();
        tryOfAsMuchGoesOn();
        tryThatEndsLearnsNoMore();
        whatBTellsOfA();
        learntOnlyComesNearer();
        triesAreOneToTwoHundredThousand();
        noTryWithoutAWay();
        noTryOverWhatIsNotOpen();
        tryGoesByTheSideNow();
        learntBounds();
        check.end();
    }

    private static void due(String what, long got, long want) {
        check.due(what, got, want);
    }

    private static void dueRing(String what, PromiseChains x, int off, int m, String row) {
        due(what + ": off", x.ring(0, 0), off);
        due(what + ": m", x.ring(1, 0), m);
        due(what + ": pairs", x.ring(2, 0), row.length());
        check.due(what + ": row", Scenes.ring(x), row);
    }

    private static void dueNoRing(String what, PromiseChains x) {
        for (int i = 0; i <= 4; i++) {
            due(what + ": ring(" + i + ", 0)", x.ring(i, 0), NONE);
        }
        due(what + ": even", x.even(), NO);
    }

    private static void dueLearnt(String what, PromiseChains x, int pair, int least, int greatest) {
        due(what + ": least", x.learnt(pair, 0), least);
        due(what + ": greatest", x.learnt(pair, 1), greatest);
    }

    /** People 0 .. n - 1, and pairs as a, b, side a, side b. */
    private static PromiseChains with(int n, int[]... pairs) {
        PromiseChains x = new PromiseChains();
        x.people(n);
        for (int[] v : pairs) {
            x.pair(v[0], v[1], v[2], v[3]);
        }
        return x;
    }

    /** "OFF: the sum over open PAIRS". */
    private static void offOverOpenPairs() {
        PromiseChains x = new PromiseChains();
        due("no pairs", x.off(), 0);
        x.pair(0, 1, 10, 4);
        x.pair(0, 1, 1, 30);
        due("both", x.off(), 35);
        x.close(0, 0, 0);
        due("closing", x.off(), 29);
        x.tick(5);
        due("closed", x.off(), 29);
        x.close(1, 0, 0);
        due("none is open", x.off(), 0);
    }

    /** "of the sizes of the differences of their SIDES". */
    private static void offIsOfSizes() {
        PromiseChains x = with(2, new int[] {0, 1, 0, 100000}, new int[] {0, 1, 100000, 0}, new int[] {1, 0, 5, 5});
        due("no difference takes from another", x.off(), 200000);
        x.promise(0, 1, 60000);
        due("what is locked is not in a side", x.off(), 140000);
        x.tell(0);
        due("what is kept is in the other one", x.off(), 120000);
        x = with(2);
        for (int i = 0; i < 12; i++) {
            x.pair(i % 2, 1 - i % 2, 100000, 0);
        }
        due("the most there may be at first", x.off(), 1200000);
    }

    /** "A RING: three PAIRS or more". */
    private static void threePairsOrMore() {
        PromiseChains x = with(2, new int[] {0, 1, 100, 0}, new int[] {1, 0, 100, 0});
        dueNoRing("two", x);
        x = with(3, new int[] {0, 1, 100, 0}, new int[] {1, 0, 100, 0}, new int[] {1, 2, 100, 0});
        dueNoRing("two and one", x);
        x.pair(2, 0, 100, 0);
        due("three", x.ring(2, 0), 3);
        dueNoRing("one", Scenes.two(100, 0));
        dueNoRing("none", new PromiseChains());
    }

    /** "no other PERSON twice": so seven pairs for seven people. */
    private static void sevenPairsAtMost() {
        PromiseChains x = with(7);
        for (int i = 0; i < 7; i++) {
            x.pair(i, (i + 1) % 7, 12, 0);
        }
        dueRing("seven", x, 0, 6, "0123456");
        due("the last i", x.ring(3, 6), 6);
        due("one behind it", x.ring(3, 7), NONE);
        due("made", x.even(), 6);
        due("the seventh is even", x.side(6, 1), 6);
    }

    /** "PAIRS .. open". */
    private static void ringOverOpenPairs() {
        for (int pair = 0; pair < 3; pair++) {
            PromiseChains x = Scenes.triangle(20, 0, 20, 0, 20, 0);
            due("open", x.ring(1, 0), 10);
            x.close(pair, pair, 0);
            dueNoRing("closing", x);
            x.tick(5);
            dueNoRing("closed", x);
        }
    }

    /** "without LOCKS": of a or of b, on any of its pairs. */
    private static void ringWithoutLocks() {
        for (int pair = 0; pair < 3; pair++) {
            for (int s = 0; s < 2; s++) {
                PromiseChains x = Scenes.triangle(20, 5, 20, 5, 20, 5);
                int a = x.about(pair, 0);
                int b = x.about(pair, 1);
                due("over one pair", x.promise(s == 0 ? a : b, s == 0 ? b : a, 1), 0);
                due("that pair", x.wayAt(0), pair);
                dueNoRing("a lock", x);
                x.tick(3);
                due("none any more", x.ring(0, 0), 1 + 1 + 1);
            }
        }
    }

    /** "that lead from a PERSON round to it". */
    private static void ringLeadsRound() {
        PromiseChains x = with(4, new int[] {0, 1, 50, 0}, new int[] {1, 2, 50, 0}, new int[] {2, 3, 50, 0});
        dueNoRing("a row", x);
        x.pair(0, 3, 0, 50);
        dueRing("four", x, 0, 25, "0123");
    }

    /** "no other PERSON twice": two rings that meet in a person are two. */
    private static void ringMeetsNobodyTwice() {
        PromiseChains x = with(5, new int[] {0, 1, 20, 0}, new int[] {1, 2, 20, 0}, new int[] {2, 3, 20, 0},
                new int[] {3, 4, 20, 0}, new int[] {4, 2, 20, 0}, new int[] {2, 0, 20, 0});
        due("all six would be even", x.off(), 120);
        dueRing("three of them", x, 60, 10, "015");
        due("made", x.even(), 10);
        dueRing("the other three", x, 0, 10, "234");
        due("made", x.even(), 10);
        dueNoRing("even", x);
    }

    /** "no other PERSON twice": nor the one that it comes to first. */
    private static void ringMeetsNotItsSecondTwice() {
        dueNoRing("0, 1, 2, 1, 0", with(3, new int[] {0, 1, 8, 0}, new int[] {1, 2, 8, 0}, new int[] {2, 1, 8, 0},
                new int[] {1, 0, 8, 0}));
        dueNoRing("1, 0, 2, 0, 1", with(3, new int[] {1, 0, 8, 0}, new int[] {0, 2, 8, 0}, new int[] {2, 0, 8, 0},
                new int[] {0, 1, 8, 0}));
        dueNoRing("there and back, twice", with(4, new int[] {0, 1, 8, 0}, new int[] {1, 2, 8, 0},
                new int[] {2, 3, 8, 0}, new int[] {3, 2, 8, 0}, new int[] {2, 1, 8, 0}, new int[] {1, 0, 8, 0}));
    }

    /** "m (1 on)". */
    private static void mIsOneOn() {
        dueRing("m of 1", Scenes.triangle(2, 0, 2, 0, 2, 0), 0, 1, "012");
        dueNoRing("even already", Scenes.triangle(2, 2, 2, 2, 2, 2));
        dueNoRing("nothing on any side", Scenes.triangle(0, 0, 0, 0, 0, 0));
        dueNoRing("one too many by m of 1", Scenes.triangle(1, 0, 1, 0, 1, 0));
    }

    /** "no SIDE being below 0 then": as much as the least side that pays, not one more. */
    private static void noSideBelowZero() {
        for (int poor = 0; poor < 3; poor++) {
            int[] sides = {90, 0, 90, 0, 90, 0};
            sides[2 * poor] = 7;
            PromiseChains x = Scenes.triangle(sides[0], sides[1], sides[2], sides[3], sides[4], sides[5]);
            dueRing("7 of " + poor, x, 76 + 76 + 7, 7, "012");
            due("made", x.even(), 7);
            due("nothing is left of it", x.side(poor, 0), 0);
            sides[2 * poor] = 0;
            sides[2 * poor + 1] = 7;
            x = Scenes.triangle(sides[0], sides[1], sides[2], sides[3], sides[4], sides[5]);
            dueNoRing("0 of " + poor, x);
        }
        dueRing("1 of 0 is enough", Scenes.triangle(1, 0, 90, 0, 90, 0), 1 + 88 + 88, 1, "012");
        dueRing("1 of 1 is enough", Scenes.triangle(90, 0, 1, 0, 90, 0), 88 + 1 + 88, 1, "012");
        dueRing("1 of 2 is enough", Scenes.triangle(90, 0, 90, 0, 1, 0), 88 + 88 + 1, 1, "012");
    }

    /** "that with the least OFF, if that is less than it was". */
    private static void lessThanItWas() {
        dueNoRing("two off by 1, one even", Scenes.triangle(11, 10, 11, 10, 10, 10));
        dueNoRing("one better, one worse, one even", Scenes.triangle(12, 10, 10, 12, 10, 10));
        dueRing("two better, one worse", Scenes.triangle(12, 10, 12, 10, 10, 10), 2, 1, "012");
        dueNoRing("as much as it was", Scenes.triangle(14, 10, 11, 10, 10, 11));
        dueRing("one less", Scenes.triangle(14, 10, 13, 10, 10, 10), 5, 1, "012");
    }

    /** "that with the least OFF": m is where the middle one of the pairs is even, whichever of them that is. */
    private static void leastOffByUnlikePairs() {
        int[][] ahead = {{10, 4, 20}, {4, 10, 20}, {4, 20, 10}, {20, 4, 10}, {20, 10, 4}, {10, 20, 4}};
        for (int[] v : ahead) {
            dueRing("10 is the middle one", Scenes.triangle(30 + v[0], 30, 30 + v[1], 30, 30 + v[2], 30), 16, 5, "012");
            dueRing("9 is", Scenes.triangle(v[0] == 10 ? 39 : 30 + v[0], 30, v[1] == 10 ? 39 : 30 + v[1], 30,
                    v[2] == 10 ? 39 : 30 + v[2], 30), 17, 4, "012");
        }
        for (int odd = 0; odd < 4; odd++) {
            int[] four = {20, 20, 20, 20};
            four[odd] = 9;
            four[(odd + 1) % 4] = 3;
            PromiseChains x = with(4);
            for (int i = 0; i < 4; i++) {
                x.pair(i, (i + 1) % 4, 30 + four[i], 30);
            }
            dueRing("four: 5 is the least from where it is flat", x, 28, 5, "0123");
        }
    }

    /** "that with the least OFF": ahead of m, of fewer pairs and of the row. */
    private static void leastOffIsFirst() {
        PromiseChains x = with(4, new int[] {0, 1, 24, 4}, new int[] {1, 2, 24, 4}, new int[] {2, 0, 24, 4},
                new int[] {2, 3, 24, 4}, new int[] {3, 0, 24, 4});
        dueRing("four pairs of 10 are better than three", x, 20, 10, "0134");
        x = with(3, new int[] {0, 1, 8, 0}, new int[] {1, 2, 8, 0}, new int[] {2, 0, 6, 0}, new int[] {2, 0, 8, 0});
        dueRing("the richer one, though the row is later", x, 6, 4, "013");
    }

    /** "of like ones the least m". */
    private static void thenLeastM() {
        dueRing("between 1 and 2: 1", Scenes.triangle(3, 0, 3, 0, 3, 0), 3, 1, "012");
        dueRing("flat from 1 to 9", with(4, new int[] {0, 1, 18, 0}, new int[] {1, 2, 18, 0},
                new int[] {2, 3, 11, 9}, new int[] {3, 0, 11, 9}), 32, 1, "0123");
        PromiseChains x = with(6, new int[] {0, 1, 8, 0}, new int[] {1, 2, 8, 0}, new int[] {2, 0, 8, 0},
                new int[] {3, 4, 6, 0}, new int[] {4, 5, 6, 0}, new int[] {5, 3, 12, 0});
        dueRing("8 times 3 is more than 6, 6 and 6 of 12", x, 24, 4, "012");
        x = with(7, new int[] {0, 1, 8, 0}, new int[] {1, 2, 8, 0}, new int[] {2, 0, 8, 0},
                new int[] {3, 4, 6, 0}, new int[] {4, 5, 6, 0}, new int[] {5, 6, 6, 0}, new int[] {6, 3, 6, 0});
        dueRing("both take 24: m of 3 is ahead of 4, of the row, and of fewer pairs", x, 24, 3, "3456");
    }

    /** "then the fewest PAIRS": ahead of the row. */
    private static void thenFewestPairs() {
        PromiseChains x = with(7, new int[] {0, 1, 8, 0}, new int[] {1, 2, 8, 0}, new int[] {2, 3, 8, 0},
                new int[] {3, 0, 4, 4}, new int[] {4, 5, 8, 0}, new int[] {5, 6, 8, 0}, new int[] {6, 4, 8, 4});
        due("off", x.off(), 44);
        dueRing("m of 4 takes 16 from both: three are ahead of four", x, 28, 4, "456");
        x.even();
        dueRing("then the four", x, 12, 4, "0123");
    }

    /** "then the first by the row of its PAIRS". */
    private static void thenFirstByTheRow() {
        PromiseChains x = with(3, new int[] {0, 1, 8, 0}, new int[] {2, 0, 8, 0}, new int[] {1, 2, 8, 0},
                new int[] {0, 1, 8, 0}, new int[] {1, 2, 8, 0}, new int[] {2, 0, 8, 0});
        dueRing("0, 2, 1 of eight rings", x, 24, 4, "021");
        x.even();
        dueRing("then 3, 4, 5", x, 0, 4, "345");
        x = with(6, new int[] {3, 4, 8, 0}, new int[] {0, 1, 8, 0}, new int[] {1, 2, 8, 0}, new int[] {2, 0, 8, 0},
                new int[] {4, 5, 8, 0}, new int[] {5, 3, 8, 0});
        dueRing("0, 4, 5 is ahead of 1, 2, 3", x, 24, 4, "045");
    }

    /** "told from its least PAIR on". */
    private static void rowIsToldFromTheLeast() {
        PromiseChains x = with(4, new int[] {2, 3, 8, 0}, new int[] {1, 2, 8, 0}, new int[] {0, 1, 8, 0},
                new int[] {3, 0, 8, 0});
        dueRing("from 0 on", x, 0, 4, "0321");
        due("i of 0", x.ring(3, 0), 0);
        due("i of 3", x.ring(3, 3), 1);
        due("i of 4", x.ring(3, 4), NONE);
        due("all from a", x.ring(4, 0) + x.ring(4, 1) + x.ring(4, 2) + x.ring(4, 3), 0);
    }

    /** "whether it goes over that from a (0) or b (1)"; a ring goes from the side that pays. */
    private static void bothWaysRound() {
        PromiseChains x = Scenes.triangle(0, 8, 0, 8, 0, 8);
        dueRing("from b to a", x, 0, 4, "021");
        for (int i = 0; i < 3; i++) {
            due("from b", x.ring(4, i), 1);
        }
        due("no more of them", x.ring(4, 3), NONE);
        x = with(3, new int[] {0, 1, 8, 0}, new int[] {2, 1, 0, 8}, new int[] {2, 0, 8, 0});
        dueRing("over a turned one", x, 0, 4, "012");
        due("0 from a", x.ring(4, 0), 0);
        due("1 from b", x.ring(4, 1), 1);
        due("2 from a", x.ring(4, 2), 0);
        x.even();
        due("b paid", x.side(1, 1), 4);
        due("a got", x.side(1, 0), 4);
    }

    /** ring: "NONE: there is none; not so many. BAD." */
    private static void ringBounds() {
        PromiseChains x = Scenes.triangle(8, 0, 8, 0, 8, 0);
        for (int[] some : new int[][] {Scenes.BELOW, Scenes.ABOVE, {5, 6}}) {
            for (int v : some) {
                due("ring(" + v + ", 0)", x.ring(v, 0), BAD);
                due("none, too: ring(" + v + ", 0)", new PromiseChains().ring(v, 0), BAD);
                due("ring(3, " + v + ")", x.ring(3, v), NONE);
                due("ring(4, " + v + ")", x.ring(4, v), NONE);
            }
        }
        due("the last i", x.ring(3, 2), 2);
        due("one behind it", x.ring(3, 3), NONE);
        due("the last i, from", x.ring(4, 2), 0);
        due("one behind it, from", x.ring(4, 3), NONE);
        due("off", x.ring(0, 0), 0);
    }

    /** ring tells, even makes. */
    private static void ringIsOnlyTold() {
        PromiseChains x = Scenes.triangle(8, 0, 8, 0, 8, 0);
        long before = x.digest();
        x.ring(0, 0);
        x.ring(3, 1);
        due("nothing changed", x.digest(), before);
        due("no state", x.about(0, 3), 1);
        due("off as it was", x.off(), 24);
    }

    /** even: "THE BEST RING is made: m": "on each PAIR m goes from the SIDE of .. to that of ..". */
    private static void evenMakesIt() {
        PromiseChains x = with(4, new int[] {0, 1, 20, 10}, new int[] {2, 1, 10, 20}, new int[] {2, 0, 20, 10},
                new int[] {2, 3, 50, 0});
        x.best(0, 3, 1);
        due("m", x.even(), 5);
        for (int pair = 0; pair < 3; pair++) {
            due("a of " + pair, x.side(pair, 0), 15);
            due("b of " + pair, x.side(pair, 1), 15);
            due("two states of " + pair, x.about(pair, 3), 2);
        }
        due("not of the ring", x.side(3, 0), 50);
        due("one state", x.about(3, 3), 1);
        due("off", x.off(), 50);
        due("the latest way stays", x.wayAt(0), 2);
        due("nobody is richer", x.wealth(1), 30);
    }

    /** even: "NO: there is none." */
    private static void evenOfNone() {
        PromiseChains x = Scenes.triangle(8, 0, 8, 0, 8, 0);
        due("m", x.even(), 4);
        due("none", x.even(), NO);
        due("two states still", x.about(0, 3), 2);
        due("none of no pairs", new PromiseChains().even(), NO);
    }

    /** "PAIRS .. open, without LOCKS": who is AWAY is on rings. */
    private static void awayPeopleAreOnRings() {
        PromiseChains x = Scenes.triangle(8, 0, 8, 0, 8, 0);
        x.away(0, true);
        x.away(1, true);
        x.away(2, true);
        due("all are away", x.even(), 4);
    }

    /** "0 and both SIDES together, at first". */
    private static void learntAtFirst() {
        int[][] sides = {{0, 0}, {100000, 100000}, {0, 8}, {8, 0}};
        for (int[] v : sides) {
            dueLearnt("at first", Scenes.two(v[0], v[1]), 0, 0, v[0] + v[1]);
        }
    }

    /** 0 and 1 with 60 and 40 of which all is learnt. */
    private static PromiseChains learnt() {
        PromiseChains x = Scenes.triangle(60, 40, 60, 40, 60, 40);
        x.best(0, 1, 1);
        x.tries(60);
        x.tries(61);
        dueLearnt("all", x, 0, 60, 60);
        return x;
    }

    /** "and whenever a SIDE of it changes": locked, kept, run out, ring, closed. */
    private static void learntAnewWhenASideChanges() {
        PromiseChains x = learnt();
        x.promise(0, 1, 10);
        dueLearnt("locked of a", x, 0, 0, 90);
        x.tries(50);
        dueLearnt("tried", x, 0, 50, 90);
        x.tell(0);
        dueLearnt("kept", x, 0, 0, 100);
        x = learnt();
        x.promise(1, 0, 10);
        dueLearnt("locked of b", x, 0, 0, 90);
        x.tries(31);
        dueLearnt("b has not 31: a has 60", x, 0, 60, 90);
        x.tick(2);
        dueLearnt("not yet run out", x, 0, 60, 90);
        x.tick(1);
        dueLearnt("run out", x, 0, 0, 100);
        x = learnt();
        due("a ring", x.even(), 10);
        dueLearnt("by a ring", x, 0, 0, 100);
        x = learnt();
        x.close(0, 0, 0);
        dueLearnt("closing changes no side", x, 0, 60, 60);
        x.tick(4);
        dueLearnt("closing still", x, 0, 60, 60);
        x.tick(1);
        dueLearnt("closed", x, 0, 0, 0);
    }

    /** "whenever a SIDE of it changes": of no other pair, and by nothing else. */
    private static void learntStaysElse() {
        PromiseChains x = learnt();
        x.promise(1, 2, 10);
        x.tell(0);
        x.pair(0, 1, 5, 5);
        x.fee(1, 1, 1);
        x.away(1, true);
        x.away(1, false);
        x.best(2, 0, 5);
        x.tries(5);
        x.tick(20);
        dueLearnt("as it was", x, 0, 60, 60);
        dueLearnt("the other one is not", x, 1, 0, 100);
        dueLearnt("pair 2 was tried", x, 2, 5, 100);
    }

    /** "the SIDE that would pay is y or more (then it goes on), or below y (it ends)". */
    private static void tryOfAsMuchGoesOn() {
        PromiseChains x = Scenes.row(4, 30);
        x.best(0, 3, 1);
        due("one less", x.tries(29), 3);
        due("as much", x.tries(30), 3);
        due("one more", x.tries(31), 0);
        x = with(3, new int[] {0, 1, 30, 0}, new int[] {2, 1, 0, 20});
        x.best(0, 2, 1);
        due("b as much", x.tries(20), 2);
        due("b one less than y", x.tries(21), 1);
        due("a as much", x.tries(30), 1);
        due("a one less than y", x.tries(31), 0);
    }

    /** "(it ends)": nothing is learnt of the pairs behind it. */
    private static void tryThatEndsLearnsNoMore() {
        PromiseChains x = with(4, new int[] {0, 1, 30, 70}, new int[] {1, 2, 20, 80}, new int[] {2, 3, 25, 75});
        x.best(0, 3, 1);
        due("over one", x.tries(22), 1);
        dueLearnt("it went on", x, 0, 22, 100);
        dueLearnt("it ended", x, 1, 0, 21);
        dueLearnt("it did not come there", x, 2, 0, 100);
    }

    /** "(what b's SIDE is tells what a's is)". */
    private static void whatBTellsOfA() {
        PromiseChains x = with(2, new int[] {1, 0, 30, 70});
        x.best(0, 1, 1);
        x.tries(50);
        dueLearnt("b has 50: a has 50 at most", x, 0, 0, 50);
        x.tries(70);
        dueLearnt("b has 70: a has 30 at most", x, 0, 0, 30);
        x.tries(90);
        dueLearnt("b has not 90: a has 11", x, 0, 11, 30);
        x.tries(71);
        dueLearnt("b has not 71: a has 30", x, 0, 30, 30);
    }

    /** "LEARNT .. a least and a greatest number": what is learnt is not given up for less. */
    private static void learntOnlyComesNearer() {
        PromiseChains x = Scenes.two(60, 40);
        x.best(0, 1, 1);
        x.tries(200000);
        dueLearnt("100 is known already", x, 0, 0, 100);
        x.tries(101);
        dueLearnt("still known", x, 0, 0, 100);
        x.tries(100);
        dueLearnt("99 at most", x, 0, 0, 99);
        x.tries(80);
        x.tries(90);
        dueLearnt("79 stays", x, 0, 0, 79);
        x.tries(50);
        x.tries(1);
        dueLearnt("50 stays", x, 0, 50, 79);
        x.best(1, 0, 1);
        x.tries(200000);
        x.tries(10);
        dueLearnt("b tells nothing new", x, 0, 50, 79);
        x.tries(101);
        dueLearnt("nor that it has not all", x, 0, 50, 79);
        x.tries(41);
        dueLearnt("that it has not 41 is new", x, 0, 60, 79);
        x.tries(40);
        dueLearnt("that it has 40, too", x, 0, 60, 60);
    }

    /** tries: "y (1 .. 200000)", "BAD". */
    private static void triesAreOneToTwoHundredThousand() {
        PromiseChains x = Scenes.two(100000, 100000);
        due("bad ahead of no", x.tries(0), BAD);
        Scenes.pay(x, 0, 1, 100000);
        x.best(1, 0, 1);
        for (int y : Scenes.BELOW) {
            due("tries(" + y + ")", x.tries(y), BAD);
        }
        for (int y : Scenes.ABOVE) {
            due("tries(" + y + ")", x.tries(y), BAD);
        }
        due("tries(0)", x.tries(0), BAD);
        dueLearnt("nothing is learnt by it", x, 0, 0, 200000);
        due("tries(1)", x.tries(1), 1);
        dueLearnt("1", x, 0, 0, 199999);
        due("tries(200000): b has just that", x.tries(200000), 1);
        dueLearnt("200000", x, 0, 0, 0);
    }

    /** tries: "NO: there was no WAY yet". */
    private static void noTryWithoutAWay() {
        PromiseChains x = Scenes.two(10, 0);
        due("no way yet", x.tries(1), NO);
        x.best(1, 0, 1);
        due("none was found", x.tries(1), NO);
        x.best(0, 1, 11);
        due("none with so much", x.tries(1), NO);
        x.promise(1, 0, 1);
        due("none promised", x.tries(1), NO);
        dueLearnt("nothing is learnt", x, 0, 0, 10);
        x.promise(0, 1, 1);
        due("a promise's way is one", x.tries(1), 1);
        x.best(0, 1, 9);
        due("the best one, too", x.tries(10), 0);
    }

    /** tries: "NO: .. or a PAIR of it is not open". */
    private static void noTryOverWhatIsNotOpen() {
        for (int pair = 0; pair < 3; pair++) {
            PromiseChains x = Scenes.row(4, 10);
            x.best(0, 3, 1);
            x.close(pair, pair, 0);
            due("closing", x.tries(5), NO);
            due("not even what would end ahead of it", x.tries(11), NO);
            dueLearnt("nothing is learnt", x, 0, 0, 20);
            x.tick(5);
            due("closed", x.tries(5), NO);
            dueLearnt("nothing is learnt of the last one", x, 2, 0, pair == 2 ? 0 : 20);
        }
        PromiseChains x = Scenes.row(4, 10);
        x.best(0, 2, 1);
        x.close(2, 2, 0);
        due("not of the way", x.tries(5), 2);
    }

    /** "A TRY of the latest WAY": with the sides as they are now. */
    private static void tryGoesByTheSideNow() {
        PromiseChains x = Scenes.row(3, 10);
        x.promise(0, 2, 6);
        due("4 are left", x.tries(4), 2);
        due("not 5", x.tries(5), 0);
        dueLearnt("4", x, 0, 4, 4);
        x.tick(3);
        due("the last one is back", x.tries(4), 2);
        dueLearnt("of both together", x, 1, 4, 20);
    }

    /** learnt: "the least (0), the greatest (1). BAD." */
    private static void learntBounds() {
        PromiseChains x = Scenes.two(7, 9);
        for (int[] some : new int[][] {Scenes.BELOW, Scenes.ABOVE, {2, 11, 12}}) {
            for (int v : some) {
                due("learnt(" + v + ", 0)", x.learnt(v, 0), BAD);
                due("learnt(0, " + v + ")", x.learnt(0, v), BAD);
            }
        }
        due("one behind the last pair", x.learnt(1, 0), BAD);
        dueLearnt("of pair 0", x, 0, 0, 16);
    }
}
