import java.util.Random;

/** Long runs of drawn calls, each answered by the class and by the plain model of the document. */
public final class ModelTest {
    private static final int CALLS = 512;
    private static final int[] EDGES = {
        Integer.MIN_VALUE, Integer.MAX_VALUE, -100001, -4, -3, -2, -1, 0, 1, 2, 5, 6, 7, 8, 11, 12, 13, 39, 40, 41,
        50, 51, 60, 61, 63, 64, 65, 100, 101, 99999, 100000, 100001, 199999, 200000, 200001,
    };
    private static final String[] NAMES = {
        "people", "pair", "fee", "gap", "look", "away", "best", "wayAt", "promise", "tell", "tick", "promiseAt", "side",
        "locked", "about", "stateAt", "close", "wealth", "off", "ring", "even", "tries", "learnt", "count", "digest",
    };
    // How often each call is drawn, in the order of NAMES.
    private static final int[] OFTEN = {
        0, 3, 6, 2, 1, 22, 12, 6, 40, 50, 16, 8, 6, 6, 6, 16, 6, 8, 2, 8, 6, 16, 8, 4, 30,
    };

    private final Check check;
    private final Random drawn;
    private final int richest;
    private final int wildness;
    private PromiseChains it = new PromiseChains();
    private Model model = new Model();

    private ModelTest(Check check, long seed, int richest, int wildness) {
        this.check = check;
        this.drawn = new Random(seed);
        this.richest = richest;
        this.wildness = wildness;
    }

    public static void main(String[] args) {
        Check check = new Check();
        int runs = args.length > 0 ? Integer.parseInt(args[0]) : 1500;
        for (int i = 0; i < runs && check.wrongOnes() < 20; i++) {
            int[] richest = {6, 40, 200, 2000};
            new ModelTest(check, i, richest[i % 4], i % 8 == 7 ? 3 : 60).run(i);
        }
        check.end();
    }

    private void run(int run) {
        if (drawn.nextInt(5) > 0) {
            begin(run);
        }
        for (int i = 0; i < CALLS; i++) {
            int call = drawCall();
            int[] v = new int[4];
            for (int k = 0; k < 4; k++) {
                v[k] = drawn.nextInt(wildness) == 0 ? EDGES[drawn.nextInt(EDGES.length)] : fitting(call, k);
            }
            if (call == 1 && (v[2] > 2000 || v[3] > 2000) && drawn.nextInt(8) > 0) {
                // The model tries every m, so large sides come seldom.
                v[2] = 1;
                v[3] = 2;
            }
            boolean is = drawn.nextBoolean();
            String told = "run " + run + ", call " + i + ": " + NAMES[call] + "(" + v[0] + ", " + v[1] + ", " + v[2] + ", "
                    + v[3] + ", " + is + ")";
            check.due(told, real(call, v, is), modelled(call, v, is));
        }
        check.due("run " + run + ", digest at the end", it.digest(), model.digest());
        checkStates(run);
    }

    private void checkStates(int run) {
        for (int pair = 0; pair < model.purses.size(); pair++) {
            for (int i = 0; i <= model.purses.get(pair).states.size(); i++) {
                String told = "run " + run + ", state " + i + " of " + pair;
                check.due(told, it.stateAt(pair, i, 0), model.stateAt(pair, i, 0));
                check.due(told, it.stateAt(pair, i, 1), model.stateAt(pair, i, 1));
            }
        }
    }

    private void begin(int run) {
        int n = 2 + drawn.nextInt(6);
        check.due("run " + run + ": people", it.people(n), model.people(n));
        int many = 1 + drawn.nextInt(12);
        for (int i = 0; i < many; i++) {
            int a = drawn.nextInt(n);
            int b = (a + 1 + drawn.nextInt(n - 1)) % n;
            int sideA = drawn.nextInt(richest + 1);
            int sideB = drawn.nextInt(richest + 1);
            check.due("run " + run + ": pair", it.pair(a, b, sideA, sideB), model.pair(a, b, sideA, sideB));
        }
    }

    private int drawCall() {
        if (drawn.nextInt(400) == 0) {
            return 0;
        }
        int sum = 0;
        for (int often : OFTEN) {
            sum += often;
        }
        int left = drawn.nextInt(sum);
        for (int call = 0; call < OFTEN.length; call++) {
            left -= OFTEN[call];
            if (left < 0) {
                return call;
            }
        }
        return 0;
    }

    /** An argument that most likely is as told. */
    private int fitting(int call, int k) {
        int person = drawn.nextInt(model.n);
        int pair = drawn.nextInt(model.purses.size() + 1);
        int promise = Math.max(0, model.chains.size() - 1 - drawn.nextInt(4));
        switch (NAMES[call]) {
            case "people": return 2 + drawn.nextInt(6);
            case "pair": return k < 2 ? person : drawn.nextInt(richest + 1);
            case "fee": return k == 0 ? person : drawn.nextInt(k == 1 ? 4 : 101);
            case "gap": return 1 + drawn.nextInt(5);
            case "look": return 1 + drawn.nextInt(8);
            case "best": case "promise": return k < 2 ? person : 1 + drawn.nextInt(richest);
            case "tell": return promise;
            case "tick": return 1 + drawn.nextInt(3);
            case "promiseAt": return k == 0 ? promise : drawn.nextInt(7);
            case "about": return k == 0 ? pair : drawn.nextInt(5);
            case "stateAt": return k == 0 ? pair : k == 1 ? drawn.nextInt(12) : drawn.nextInt(2);
            case "close": return k == 0 ? pair : k == 1 ? person : drawn.nextInt(4);
            case "wayAt": return drawn.nextInt(7);
            case "ring": return k == 0 ? drawn.nextInt(5) : drawn.nextInt(7);
            case "tries": return 1 + drawn.nextInt(richest * 2);
            case "count": return drawn.nextInt(8);
            case "side": case "locked": case "learnt": return k == 0 ? pair : drawn.nextInt(2);
            default: return person;
        }
    }

    private long real(int call, int[] v, boolean is) {
        switch (NAMES[call]) {
            case "people": return it.people(v[0]);
            case "pair": return it.pair(v[0], v[1], v[2], v[3]);
            case "fee": return it.fee(v[0], v[1], v[2]);
            case "gap": return it.gap(v[0]);
            case "look": return it.look(v[0]);
            case "away": return it.away(v[0], is);
            case "best": return it.best(v[0], v[1], v[2]);
            case "wayAt": return it.wayAt(v[0]);
            case "promise": return it.promise(v[0], v[1], v[2]);
            case "tell": return it.tell(v[0]);
            case "tick": return it.tick(v[0]);
            case "promiseAt": return it.promiseAt(v[0], v[1]);
            case "side": return it.side(v[0], v[1]);
            case "locked": return it.locked(v[0], v[1]);
            case "about": return it.about(v[0], v[1]);
            case "stateAt": return it.stateAt(v[0], v[1], v[2]);
            case "close": return it.close(v[0], v[1], v[2]);
            case "wealth": return it.wealth(v[0]);
            case "off": return it.off();
            case "ring": return it.ring(v[0], v[1]);
            case "even": return it.even();
            case "tries": return it.tries(v[0]);
            case "learnt": return it.learnt(v[0], v[1]);
            case "count": return it.count(v[0]);
            default: return it.digest();
        }
    }

    private long modelled(int call, int[] v, boolean is) {
        switch (NAMES[call]) {
            case "people": return model.people(v[0]);
            case "pair": return model.pair(v[0], v[1], v[2], v[3]);
            case "fee": return model.fee(v[0], v[1], v[2]);
            case "gap": return model.gap(v[0]);
            case "look": return model.look(v[0]);
            case "away": return model.away(v[0], is);
            case "best": return model.best(v[0], v[1], v[2]);
            case "wayAt": return model.wayAt(v[0]);
            case "promise": return model.promise(v[0], v[1], v[2]);
            case "tell": return model.tell(v[0]);
            case "tick": return model.tick(v[0]);
            case "promiseAt": return model.promiseAt(v[0], v[1]);
            case "side": return model.side(v[0], v[1]);
            case "locked": return model.locked(v[0], v[1]);
            case "about": return model.about(v[0], v[1]);
            case "stateAt": return model.stateAt(v[0], v[1], v[2]);
            case "close": return model.close(v[0], v[1], v[2]);
            case "wealth": return model.wealth(v[0]);
            case "off": return model.off();
            case "ring": return model.ring(v[0], v[1]);
            case "even": return model.even();
            case "tries": return model.tries(v[0]);
            case "learnt": return model.learnt(v[0], v[1]);
            case "count": return model.count(v[0]);
            default: return model.digest();
        }
    }
}
