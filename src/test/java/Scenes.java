/** Small worlds that several tests begin with, and all that can be seen of one. */
final class Scenes {
    static final int NONE = -1, BAD = -2, NO = -3, FULL = -4;
    static final int LOW = Integer.MIN_VALUE, HIGH = Integer.MAX_VALUE;
    /** Numbers below 0, the last of them such that their double or a multiple of it comes out small again. */
    static final int[] BELOW = {-1, -2, -3, -64, -100000, LOW, LOW + 1, -(1 << 30), -(1 << 30) + 1, -(1 << 25)};
    /** Numbers above all that any call takes, with the same turn. */
    static final int[] ABOVE = {200001, 1 << 25, (1 << 25) + 1, 1 << 29, 1 << 30, (1 << 30) + 1, HIGH - 1, HIGH};

    private Scenes() {
    }

    /** 0 - 1 - .. - n - 1: pair i is between i and i + 1 and has the same on both sides. */
    static PromiseChains row(int n, int side) {
        PromiseChains x = new PromiseChains();
        x.people(n);
        for (int i = 0; i < n - 1; i++) {
            x.pair(i, i + 1, side, side);
        }
        return x;
    }

    /** Pairs 0 (0, 1), 1 (1, 2), 2 (2, 0). */
    static PromiseChains triangle(int a0, int b0, int a1, int b1, int a2, int b2) {
        PromiseChains x = new PromiseChains();
        x.people(3);
        x.pair(0, 1, a0, b0);
        x.pair(1, 2, a1, b1);
        x.pair(2, 0, a2, b2);
        return x;
    }

    /** One pair (0, 1) with the two sides. */
    static PromiseChains two(int sideA, int sideB) {
        PromiseChains x = new PromiseChains();
        x.pair(0, 1, sideA, sideB);
        return x;
    }

    /** A payment over the best way, kept at once; how many locks it had. */
    static int pay(PromiseChains x, int s, int d, int sum) {
        return x.tell(x.promise(s, d, sum));
    }

    /** The latest way as its numbers, 0 to 11 told by one sign each. */
    static String way(PromiseChains x) {
        StringBuilder text = new StringBuilder();
        for (int i = 0; i < 12 && x.wayAt(i) != NONE; i++) {
            text.append(Integer.toString(x.wayAt(i), 12));
        }
        return text.toString();
    }

    /** The best ring as its numbers, told like a way. */
    static String ring(PromiseChains x) {
        StringBuilder text = new StringBuilder();
        for (int i = 0; i < 12 && x.ring(3, i) != NONE; i++) {
            text.append(Integer.toString(x.ring(3, i), 12));
        }
        return text.toString();
    }

    /** All that can be seen without a change. */
    static String seen(PromiseChains x) {
        StringBuilder text = new StringBuilder();
        text.append(x.digest()).append(" way ").append(way(x)).append(" off ").append(x.off());
        text.append(" ring ").append(x.ring(0, 0)).append(' ').append(x.ring(1, 0)).append(' ').append(ring(x));
        for (int pair = 0; pair < x.count(1); pair++) {
            text.append(" states");
            for (int i = 0; i < x.about(pair, 3); i++) {
                text.append(' ').append(x.stateAt(pair, i, 0)).append('/').append(x.stateAt(pair, i, 1));
            }
        }
        return text.toString();
    }
}
