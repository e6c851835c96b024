import java.util.ArrayList;
import java.util.List;
import java.util.Random;

/** Runs of 512 calls, in any order of the calls: an answer depends on what the graph is, not on what was asked before. */
public final class RunsTest {
    private static final int CALLS = 512;
    private static final int[] WILD = {
        Integer.MIN_VALUE, Integer.MIN_VALUE + 1, -1000, -32, -4, -3, -2, -1, 11, 14, 31, 32, 33, 64, 1001, 1024,
        1 << 20, 1 << 30, Integer.MAX_VALUE - 1, Integer.MAX_VALUE};
    private static final Check CHECK = new Check("RunsTest");

    private record Call(String method, int a, int b) {
        long on(BagTrees x) {
            switch (method) {
                case "begin": return x.begin(a);
                case "join": return x.join(a, b);
                case "part": return x.part(a, b);
                case "weigh": return x.weigh(a, b);
                case "count": return x.count(a);
                case "near": return x.near(a);
                case "width": return x.width(a);
                case "order": return x.order(a, b);
                case "seen": return x.seen(a, b);
                case "separator": return x.separator(a);
                case "clique": return x.clique(a);
                case "total": return x.total(a, b);
                case "best": return x.best(a);
                case "which": return x.which(a);
                default: return x.fewest(a);
            }
        }

        boolean changes() {
            return List.of("begin", "join", "part", "weigh").contains(method);
        }

        long changedIn(Oracle o) {
            switch (method) {
                case "begin": return o.begin(a);
                case "join": return o.join(a, b);
                case "part": return o.part(a, b);
                default: return o.weigh(a, b);
            }
        }
    }

    public static void main(String[] args) {
        eachQuestionAfterEach();
        eachQuestionAfterEachChange();
        longRuns();
        CHECK.end();
    }

    private static List<Call> questions() {
        List<Call> all = new ArrayList<>();
        for (int i = 0; i < 14; i++) {
            all.add(new Call("total", i, 3));
        }
        for (int i = 0; i < 7; i++) {
            all.add(new Call("count", i, 0));
        }
        for (int i = 0; i < 6; i++) {
            all.add(new Call("width", i, 0));
            all.add(new Call("order", i, 4));
            all.add(new Call("seen", i, 4));
        }
        for (int i = 0; i < 5; i++) {
            all.add(new Call("best", i, 0));
            all.add(new Call("which", i, 0));
        }
        all.add(new Call("near", 9, 0));
        all.add(new Call("separator", 2, 0));
        all.add(new Call("clique", 2, 0));
        all.add(new Call("fewest", 0b1000100101, 0));
        return all;
    }

    private static BagTrees lopsided() {
        BagTrees x = Graphs.joined(10, 0, 1, 1, 2, 2, 3, 3, 0, 3, 4, 4, 5, 5, 6, 6, 4, 6, 7, 7, 8, 8, 9, 9, 6, 0, 5);
        return Graphs.weighed(x, 3, 1, 4, 1, 5, 9, 2, 6, 5, 3);
    }

    private static void eachQuestionAfterEach() {
        for (Call first : questions()) {
            for (Call then : questions()) {
                BagTrees x = lopsided();
                first.on(x);
                CHECK.due(then + " after " + first, then.on(x), then.on(lopsided()));
                CHECK.due(first + " after itself and " + then, first.on(x), first.on(lopsided()));
            }
        }
    }

    private static void eachQuestionAfterEachChange() {
        Call[] changes = {new Call("join", 1, 8), new Call("part", 3, 4), new Call("weigh", 6, 70), new Call("begin", 5, 0),
            new Call("begin", 0, 0)};
        for (Call change : changes) {
            for (Call question : questions()) {
                BagTrees used = lopsided();
                question.on(used);
                change.on(used);
                BagTrees fresh = lopsided();
                change.on(fresh);
                CHECK.due(question + " before and after " + change, question.on(used), question.on(fresh));
            }
        }
    }

    private static void longRuns() {
        Random random = new Random(16112026);
        for (int run = 0; run < 30; run++) {
            BagTrees x = new BagTrees();
            Oracle o = new Oracle();
            for (int i = 0; i < CALLS; i++) {
                Call call = run % 2 == 0 ? someCall(random, o.n) : changeOrQuestion(random, o);
                long got = call.on(x);
                long due = call.changes() ? call.changedIn(o) : call.on(broughtTo(o));
                CHECK.due("run " + run + ", call " + i + ": " + call, got, due);
            }
        }
    }

    /** Most changes are taken here, so that there are some 250 of them in a run. */
    private static Call changeOrQuestion(Random random, Oracle o) {
        int a = number(random, o.n);
        int b = number(random, o.n);
        if (random.nextBoolean() || !o.isVertex(a) || !o.isVertex(b)) {
            return someCall(random, o.n);
        }
        return new Call(o.joined[a][b] ? "part" : "join", a, b);
    }

    /** A new object in the state that the oracle has kept: it has been asked nothing yet. */
    private static BagTrees broughtTo(Oracle o) {
        BagTrees x = Graphs.apart(o.n);
        for (int[] edge : o.edges()) {
            x.join(edge[1], edge[0]);
        }
        for (int v = 0; v < o.n; v++) {
            x.weigh(v, o.weight[v]);
        }
        return x;
    }

    private static Call someCall(Random random, int n) {
        if (random.nextInt(n < 4 ? 8 : 120) == 0) {
            return new Call("begin", number(random, 11), 0);
        }
        switch (random.nextInt(26)) {
            case 0: case 1: case 2: case 3: case 4: case 5: case 6: case 7: case 8: case 9:
                return new Call("join", number(random, n), number(random, n));
            case 10: case 11: case 12: return new Call("part", number(random, n), number(random, n));
            case 13: return new Call("weigh", number(random, n), number(random, 1001));
            case 14: return new Call("count", number(random, 7), 0);
            case 15: return new Call("near", number(random, n), 0);
            case 16: return new Call("width", number(random, 6), 0);
            case 17: return new Call("order", number(random, 6), number(random, n));
            case 18: return new Call("seen", number(random, 6), number(random, n));
            case 19: return new Call("separator", number(random, 12), 0);
            case 20: return new Call("clique", number(random, 12), 0);
            case 21: case 22: return new Call("total", number(random, 14), number(random, 11));
            case 23: return new Call("best", number(random, 5), 0);
            case 24: return new Call("which", number(random, 5), 0);
            default: return new Call("fewest", number(random, 1 << n), 0);
        }
    }

    /** Mostly below a bound, sometimes anything. */
    private static int number(Random random, int bound) {
        boolean wild = bound <= 0 || random.nextInt(25) == 0;
        return wild ? WILD[random.nextInt(WILD.length)] : random.nextInt(bound);
    }
}
