import java.util.Random;

/** Answers on many graphs, and along long runs of calls, against the words of the document. */
public final class OracleTest {
    private static final Check CHECK = new Check("OracleTest");
    private static final String[] EDGE_SET_TOTALS = {"2", "3", "5", "6", "7", "8", "9", "11", "13"};

    public static void main(String[] args) {
        smallGraphs();
        allGraphsOfFour();
        bigGraphs();
        thickGraphs();
        totalsInAnyOrder();
        longRuns();
        CHECK.end();
    }

    private static void smallGraphs() {
        Random random = new Random(20261115);
        for (int round = 0; round < 700; round++) {
            int n = random.nextInt(8);
            int m = random.nextInt(12);
            compareAll("small " + round, random, n, m, true);
        }
    }

    private static void allGraphsOfFour() {
        Random random = new Random(4);
        for (int code = 0; code < 64; code++) {
            BagTrees x = new BagTrees();
            Oracle o = new Oracle();
            x.begin(4);
            o.begin(4);
            int bit = 0;
            for (int a = 0; a < 4; a++) {
                for (int b = a + 1; b < 4; b++) {
                    if ((code >> bit++ & 1) != 0) {
                        CHECK.due("join", x.join(a, b), o.join(a, b));
                    }
                }
            }
            compare("four " + code, x, o, random, true);
        }
    }

    private static void bigGraphs() {
        Random random = new Random(10);
        for (int round = 0; round < 60; round++) {
            compareAll("big " + round, random, 8 + round % 3, 6 + random.nextInt(9), true);
        }
    }

    private static void thickGraphs() {
        Random random = new Random(20);
        for (int round = 0; round < 6; round++) {
            compareAll("thick " + round, random, 8 + round % 3, 17 + random.nextInt(4), false);
        }
    }

    private static void compareAll(String name, Random random, int n, int m, boolean fewest) {
        BagTrees x = new BagTrees();
        Oracle o = new Oracle();
        CHECK.due(name + " begin", x.begin(n), o.begin(n));
        int tries = 0;
        while (n > 1 && o.edges().size() < Math.min(m, n * (n - 1) / 2) && tries++ < 1000) {
            int a = random.nextInt(n);
            int b = random.nextInt(n);
            CHECK.due(name + " join", x.join(a, b), o.join(a, b));
        }
        int spread = random.nextInt(4);
        for (int v = 0; v < n; v++) {
            int w = spread == 0 ? 1 : spread == 1 ? random.nextInt(3) : random.nextInt(1001);
            CHECK.due(name + " weigh", x.weigh(v, w), o.weigh(v, w));
        }
        compare(name, x, o, random, fewest);
    }

    private static void compare(String name, BagTrees x, Oracle o, Random random, boolean fewest) {
        compareParts(name, x, o);
        for (int kind = 0; kind < 6; kind++) {
            compareOrder(name, x, o, kind);
        }
        compareTotals(name, x, o);
        for (int what = -1; what <= 5; what++) {
            CHECK.due(name + " which " + what, x.which(what), o.which(what));
            CHECK.due(name + " best " + what, x.best(what), o.best(what));
        }
        for (int i = 0; fewest && i < 4; i++) {
            int set = random.nextInt(1 << o.n);
            CHECK.due(name + " fewest " + set, x.fewest(set), o.fewest(set));
        }
    }

    private static void compareParts(String name, BagTrees x, Oracle o) {
        for (int what = -1; what <= 7; what++) {
            CHECK.due(name + " count " + what, x.count(what), o.count(what));
        }
        for (int v = -1; v <= o.n; v++) {
            CHECK.due(name + " near " + v, x.near(v), o.near(v));
        }
        int separators = 0;
        int cliques = 0;
        for (int set = 0; set < 1 << o.n; set++) {
            if (o.isSeparator(set)) {
                CHECK.due(name + " separator " + separators, x.separator(separators), set);
                separators++;
            }
            if (o.isClique(set)) {
                CHECK.due(name + " clique " + cliques, x.clique(cliques), set);
                cliques++;
            }
        }
        CHECK.due(name + " separator " + separators, x.separator(separators), BagTrees.NONE);
        CHECK.due(name + " clique " + cliques, x.clique(cliques), BagTrees.NONE);
    }

    private static void compareOrder(String name, BagTrees x, Oracle o, int kind) {
        int[] order = o.leastOrder(kind);
        CHECK.due(name + " width " + kind, x.width(kind), o.cost(kind, order, o.n));
        for (int k = 0; k < o.n; k++) {
            CHECK.due(name + " order " + kind + " " + k, x.order(kind, k), order[k]);
            CHECK.due(name + " seen " + kind + " " + order[k], x.seen(kind, order[k]), o.sees(order, k, o.n));
        }
        CHECK.due(name + " order past the end", x.order(kind, o.n), BagTrees.NONE);
    }

    private static void compareTotals(String name, BagTrees x, Oracle o) {
        CHECK.due(name + " total 0", x.total(0, 99), o.setTotal(0));
        CHECK.due(name + " total 4", x.total(4, -7), o.setTotal(4));
        CHECK.due(name + " total 12", x.total(12, 0), o.setTotal(12));
        CHECK.due(name + " total 10", x.total(10, 11), o.directions());
        for (int q = 0; q <= 10; q++) {
            CHECK.due(name + " total 1 " + q, x.total(1, q), o.colourings(q));
        }
        long[] totals = o.edgeSetTotals();
        for (String what : EDGE_SET_TOTALS) {
            int number = Integer.parseInt(what);
            CHECK.due(name + " total " + what, x.total(number, 0), totals[number]);
        }
    }

    private static long totalOf(Oracle o, int what, int q) {
        switch (what) {
            case 0: case 4: case 12: return o.setTotal(what);
            case 1: return o.colourings(q);
            case 10: return o.directions();
            default: return o.edgeSetTotals()[what];
        }
    }

    /** Each total as the first call on a new object's tables, and after each other one. */
    private static void totalsInAnyOrder() {
        for (int n = 0; n <= 5; n++) {
            for (int first = 0; first < 14; first++) {
                for (int then = 0; then < 14; then++) {
                    BagTrees x = new BagTrees();
                    Oracle o = new Oracle();
                    x.begin(n);
                    o.begin(n);
                    for (int v = 0; v < 2 * n; v++) {
                        CHECK.due("join", x.join(v % n, (v + 1 + v / n) % n), o.join(v % n, (v + 1 + v / n) % n));
                    }
                    CHECK.due(n + ": total " + first, x.total(first, 3), totalOf(o, first, 3));
                    CHECK.due(n + ": total " + then + " after " + first, x.total(then, 3), totalOf(o, then, 3));
                }
            }
        }
    }

    /** Changes and questions mixed, so that an answer kept too long would be seen. */
    private static void longRuns() {
        Random random = new Random(512);
        for (int run = 0; run < 60; run++) {
            BagTrees x = new BagTrees();
            Oracle o = new Oracle();
            for (int call = 0; call < 512; call++) {
                oneCall("run " + run + " call " + call, x, o, random);
            }
        }
    }

    private static void oneCall(String name, BagTrees x, Oracle o, Random random) {
        int a = random.nextInt(8) - 1;
        int b = random.nextInt(8) - 1;
        switch (random.nextInt(14)) {
            case 0:
                if (o.n == 0 || random.nextInt(8) == 0) {
                    int n = random.nextInt(20) == 0 ? 11 : random.nextInt(7);
                    CHECK.due(name + " begin " + n, x.begin(n), o.begin(n));
                }
                break;
            case 1: case 2: case 3:
                CHECK.due(name + " join " + a + " " + b, x.join(a, b), o.join(a, b));
                break;
            case 4: case 5:
                CHECK.due(name + " part " + a + " " + b, x.part(a, b), o.part(a, b));
                break;
            case 6:
                int w = random.nextInt(1003) - 1;
                CHECK.due(name + " weigh " + a + " " + w, x.weigh(a, w), o.weigh(a, w));
                break;
            case 7:
                CHECK.due(name + " count " + a, x.count(a), o.count(a));
                break;
            case 8:
                if (a >= 0 && a < 6) {
                    compareOrder(name, x, o, a);
                }
                break;
            case 9:
                CHECK.due(name + " separator " + a, x.separator(a), o.separator(a));
                break;
            case 10:
                CHECK.due(name + " clique " + a, x.clique(a), o.clique(a));
                break;
            case 11:
                int what = random.nextInt(14);
                int q = random.nextInt(11);
                CHECK.due(name + " total " + what + " " + q, x.total(what, q), totalOf(o, what, q));
                break;
            case 12:
                CHECK.due(name + " best " + a, x.best(a), o.best(a));
                CHECK.due(name + " which " + a, x.which(a), o.which(a));
                break;
            default:
                int set = random.nextInt(70) - 2;
                CHECK.due(name + " fewest " + set, x.fewest(set), o.fewest(set));
        }
    }
}
