import java.util.Arrays;

/**
 * Each sentence of promises 1 to 16 that names a boundary case. The answers were worked out by hand, but for the
 * widths, orders and HOLES of 10 VERTICES with 20 EDGES, which are Oracle's.
 */
public final class BoundariesTest {
    private static final int NONE = BagTrees.NONE, BAD = BagTrees.BAD, FULL = BagTrees.FULL, THERE = BagTrees.THERE;
    private static final int LEAST = Integer.MIN_VALUE, GREATEST = Integer.MAX_VALUE;
    private static final int KINDS = 6;
    private static final Sentences S = new Sentences("BoundariesTest");

    private interface Call {
        long ask(BagTrees x);
    }

    public static void main(String[] args) {
        newObject();
        beginTakes();
        beginStartsOver();
        joinCounts();
        joinRefuses();
        partCounts();
        partRefuses();
        weighTells();
        weighRefuses();
        countsOfAll();
        countsOfHoles();
        countRefuses();
        nearTells();
        widthTells();
        orderTells();
        orderRefuses();
        seenTells();
        separatorTells();
        cliqueTells();
        totalTakes();
        totalRefuses();
        bestTells();
        whichTells();
        fewestTells();
        fewestRefuses();
        refusedCallsChangeNothing();
        S.end();
    }

    // ---- promise 1

    private static void newObject() {
        S.says("Promise 1: A new object", "No VERTICES.");
        S.due("count(0)", new BagTrees().count(0), 0);
        S.due("count(1)", new BagTrees().count(1), 0);
        S.due("count(2)", new BagTrees().count(2), 0);
        S.due("count(6)", new BagTrees().count(6), NONE);
        S.due("begin(1)", new BagTrees().begin(1), 0);
        S.due("join(0, 1)", new BagTrees().join(0, 1), BAD);
        S.due("part(0, 1)", new BagTrees().part(0, 1), BAD);
        S.due("weigh(0, 1)", new BagTrees().weigh(0, 1), BAD);
        S.due("near(0)", new BagTrees().near(0), BAD);
        for (int kind = 0; kind < KINDS; kind++) {
            S.due("width(" + kind + ")", new BagTrees().width(kind), 0);
            S.due("order(" + kind + ", 0)", new BagTrees().order(kind, 0), NONE);
            S.due("seen(" + kind + ", 0)", new BagTrees().seen(kind, 0), BAD);
        }
        S.due("separator(0)", new BagTrees().separator(0), NONE);
        S.due("clique(0)", new BagTrees().clique(0), NONE);
        S.due("total(0, 0)", new BagTrees().total(0, 0), 1);
        S.due("best(0)", new BagTrees().best(0), 0);
        S.due("which(3)", new BagTrees().which(3), NONE);
        S.due("fewest(0)", new BagTrees().fewest(0), 0);
        S.due("fewest(1)", new BagTrees().fewest(1), BAD);
        S.holds("it is as after begin(0)",
                Arrays.equals(Graphs.state(new BagTrees()), Graphs.state(Graphs.apart(0))));
    }

    // ---- promise 2

    private static final String BEGIN = "Promise 2: begin";

    private static void beginTakes() {
        S.says(BEGIN, "So many VERTICES, 0 .. 10");
        for (int n = 0; n <= 10; n++) {
            BagTrees x = new BagTrees();
            S.due("begin(" + n + ")", x.begin(n), 0);
            S.due("count(0)", x.count(0), n);
            S.due("count(2)", x.count(2), n);
            S.due("near(" + n + ")", x.near(n), BAD);
        }

        S.says(BEGIN, "how many there were");
        BagTrees x = new BagTrees();
        S.due("begin(10) at first", x.begin(10), 0);
        S.due("begin(10) again", x.begin(10), 10);
        S.due("begin(0)", x.begin(0), 10);
        S.due("begin(0) again", x.begin(0), 0);
        S.due("begin(1)", x.begin(1), 0);
        S.due("begin(10) after a BAD one", x.begin(11) == BAD ? x.begin(10) : BAD, 1);

        S.says(BEGIN, "BAD.");
        for (int n : new int[] {LEAST, -1, 11, 32, GREATEST}) {
            S.due("begin(" + n + ")", Graphs.apart(3).begin(n), BAD);
        }
    }

    private static void beginStartsOver() {
        S.says(BEGIN, "of WEIGHT 1");
        for (int n = 1; n <= 10; n++) {
            BagTrees x = Graphs.weighed(Graphs.apart(10), 0, 2, 3, 4, 5, 6, 7, 8, 9, 1000);
            x.begin(n);
            S.due("all of " + n + " together", x.best(0), n);
            for (int v = 0; v < n; v++) {
                S.due("weigh(" + v + ", 5) after begin(" + n + ")", x.weigh(v, 5), 1);
            }
        }
        BagTrees again = Graphs.weighed(Graphs.apart(10), 0, 2, 3, 4, 5, 6, 7, 8, 9, 1000);
        again.begin(1);
        again.begin(10);
        S.due("after fewer and more again", again.weigh(9, 1), 1);

        S.says(BEGIN, "without EDGES");
        for (int n = 0; n <= 10; n++) {
            BagTrees x = Graphs.squaredRing();
            x.width(0);
            x.begin(n);
            S.due("count(1) after begin(" + n + ")", x.count(1), 0);
            S.holds("begin(" + n + ") makes it as a new one is",
                    Arrays.equals(Graphs.state(x), Graphs.state(Graphs.apart(n))));
        }
        BagTrees x = Graphs.squaredRing();
        x.begin(5);
        x.begin(10);
        for (int v = 0; v < 10; v++) {
            S.due("near(" + v + ") after fewer and more again", x.near(v), 0);
        }
        S.due("join(0, 1) after 20 EDGES and begin", x.join(0, 1), 1);
    }

    // ---- promise 3

    private static final String JOIN = "Promise 3: join";

    private static void joinCounts() {
        S.says(JOIN, "An EDGE more: how many there are");
        BagTrees x = Graphs.apart(10);
        for (int v = 0; v < 10; v++) {
            S.due("EDGE " + (v + 1), x.join(v, (v + 1) % 10), v + 1);
        }
        for (int v = 0; v < 10; v++) {
            S.due("EDGE " + (v + 11), x.join((v + 2) % 10, v), v + 11);
        }
        S.due("near(0)", x.near(0), 4 + 2 + 512 + 256);
        S.due("near(9)", x.near(9), 1 + 2 + 256 + 128);
    }

    private static void joinRefuses() {
        S.says(JOIN, "BAD: also both are the same");
        for (int v : new int[] {LEAST, -32, -1, 3, 32, GREATEST}) {
            S.due("join(" + v + ", 0) of 3", Graphs.apart(3).join(v, 0), BAD);
            S.due("join(0, " + v + ") of 3", Graphs.apart(3).join(0, v), BAD);
            S.due("join(" + v + ", " + v + ") of 3", Graphs.apart(3).join(v, v), BAD);
        }
        for (int v = 0; v < 10; v++) {
            S.due("join(" + v + ", " + v + ")", Graphs.squaredRing().join(v, v), BAD);
        }

        S.says(JOIN, "THERE: it is there");
        for (int v = 0; v < 10; v++) {
            S.due("join(" + v + ", next)", Graphs.ring(10).join(v, (v + 1) % 10), THERE);
            S.due("join(next, " + v + ")", Graphs.ring(10).join((v + 1) % 10, v), THERE);
            S.due("join(" + v + ", next) of a full one", Graphs.squaredRing().join(v, (v + 1) % 10), THERE);
        }
        BagTrees back = Graphs.path(2);
        back.part(1, 0);
        S.due("join(0, 1) after part(1, 0)", back.join(0, 1), 1);

        S.says(JOIN, "FULL: 20 are.");
        BagTrees x = Graphs.squaredRing();
        S.due("join(0, 5) with 20", x.join(0, 5), FULL);
        S.due("part(0, 1)", x.part(0, 1), 19);
        S.due("join(0, 5) with 19", x.join(0, 5), 20);
        S.due("join(0, 1) with 20", x.join(0, 1), FULL);
        S.due("join(6, 5) of 7 with 20", Graphs.complete(7).join(6, 5), FULL);
    }

    // ---- promise 4

    private static final String PART = "Promise 4: part";

    private static void partCounts() {
        S.says(PART, "An EDGE goes: how many are left");
        BagTrees x = Graphs.squaredRing();
        for (int v = 0; v < 10; v++) {
            S.due("of " + (20 - v), x.part((v + 1) % 10, v), 19 - v);
        }
        for (int v = 0; v < 10; v++) {
            S.due("of " + (10 - v), x.part(v, (v + 2) % 10), 9 - v);
        }
        S.holds("after the last one it is as before the first",
                Arrays.equals(Graphs.state(x), Graphs.state(Graphs.apart(10))));
    }

    private static void partRefuses() {
        S.says(PART, "BAD;");
        for (int v : new int[] {LEAST, -32, -1, 3, 32, 33, GREATEST}) {
            S.due("part(" + v + ", 0) of 3", Graphs.path(3).part(v, 0), BAD);
            S.due("part(0, " + v + ") of 3", Graphs.path(3).part(0, v), BAD);
            S.due("part(" + v + ", " + v + ") of 3", Graphs.path(3).part(v, v), BAD);
        }

        S.says(PART, "NONE: there is none between them");
        S.due("part(0, 1) of two apart", Graphs.apart(2).part(0, 1), NONE);
        S.due("part(0, 2) of a path", Graphs.path(3).part(0, 2), NONE);
        S.due("part(5, 6), the one that 20 EDGES are without", Graphs.complete(7).part(5, 6), NONE);
        BagTrees x = Graphs.path(2);
        S.due("part(0, 1)", x.part(0, 1), 0);
        S.due("part(0, 1) again", x.part(0, 1), NONE);
        S.due("part(1, 0) again", x.part(1, 0), NONE);
        // that both are the same is BAD for join alone
        for (int v = 0; v < 10; v++) {
            S.due("part(" + v + ", " + v + ")", Graphs.squaredRing().part(v, v), NONE);
        }
    }

    // ---- promise 5

    private static final String WEIGH = "Promise 5: weigh";

    private static void weighTells() {
        S.says(WEIGH, "A VERTEX has another WEIGHT: what it had");
        BagTrees x = Graphs.apart(10);
        for (int v = 0; v < 10; v++) {
            S.due("weigh(" + v + ", 1000) at first", x.weigh(v, 1000), 1);
            S.due("weigh(" + v + ", 0)", x.weigh(v, 0), 1000);
            S.due("weigh(" + v + ", 0) again", x.weigh(v, 0), 0);
            S.due("weigh(" + v + ", 999)", x.weigh(v, 999), 0);
            S.due("weigh(" + v + ", 1001)", x.weigh(v, 1001), BAD);
            S.due("weigh(" + v + ", 1) after a BAD one", x.weigh(v, 1), 999);
        }
        BagTrees kept = Graphs.weighed(Graphs.apart(2), 3, 4);
        kept.join(0, 1);
        kept.part(0, 1);
        S.due("kept when EDGES come and go", kept.weigh(1, 0), 4);
        S.due("that of another one is as it was", kept.weigh(0, 0), 3);
    }

    private static void weighRefuses() {
        S.says(WEIGH, "BAD.");
        for (int v : new int[] {LEAST, -32, -1, 3, 32, GREATEST}) {
            S.due("weigh(" + v + ", 1) of 3", Graphs.apart(3).weigh(v, 1), BAD);
            S.due("weigh(" + v + ", -1) of 3", Graphs.apart(3).weigh(v, -1), BAD);
        }
        for (int weight : new int[] {LEAST, -1, 1001, GREATEST}) {
            S.due("weigh(0, " + weight + ")", Graphs.apart(3).weigh(0, weight), BAD);
            S.due("weigh(2, " + weight + ")", Graphs.apart(3).weigh(2, weight), BAD);
        }
    }

    // ---- promise 6

    private static final String COUNT = "Promise 6: count";

    /** From no VERTICES to 10 of them, from no EDGES to 20. */
    private static void countsAre(int what, int... counts) {
        BagTrees[] graphs = {Graphs.apart(0), Graphs.apart(1), Graphs.apart(10), Graphs.path(2), Graphs.star(10),
            Graphs.ring(10), Graphs.complete(6), Graphs.complete(7), Graphs.squaredRing()};
        String[] names = {"none", "one", "ten apart", "a pair", "star of 10", "ring of 10", "all of 6",
            "all but an EDGE of 7", "10 VERTICES and 20 EDGES"};
        for (int i = 0; i < graphs.length; i++) {
            S.due(names[i], graphs[i].count(what), counts[i]);
        }
    }

    private static void countsOfAll() {
        S.says(COUNT, "What = 0 VERTICES");
        countsAre(0, 0, 1, 10, 2, 10, 10, 6, 7, 10);
        S.says(COUNT, "1 EDGES");
        countsAre(1, 0, 0, 0, 1, 9, 10, 15, 20, 20);
        S.says(COUNT, "2 PARTS");
        countsAre(2, 0, 1, 10, 1, 1, 1, 1, 1, 1);
        S.due("two rings and one", Graphs.joined(7, 0, 1, 1, 2, 2, 0, 3, 4, 4, 5, 5, 3).count(2), 3);
        S.says(COUNT, "3 the greatest number of EDGES at one VERTEX");
        countsAre(3, 0, 0, 0, 1, 9, 2, 5, 6, 4);
        S.says(COUNT, "4 the greatest k such that in some SET, not empty, each VERTEX is joined to k others of it "
                + "at least (0 without VERTICES)");
        countsAre(4, 0, 0, 0, 1, 1, 2, 5, 5, 4);
        S.due("a ring of 3 with a tail", Graphs.joined(5, 0, 1, 1, 2, 2, 3, 3, 4, 4, 2).count(4), 2);
    }

    private static void countsOfHoles() {
        S.says(COUNT, "5 how many HOLES, as SETS, there are");
        countsAre(5, 0, 0, 0, 0, 0, 1, 0, 0, 17);
        S.due("the three rings of two and three", Graphs.joined(5, 0, 2, 0, 3, 0, 4, 1, 2, 1, 3, 1, 4).count(5), 3);
        S.says(COUNT, "6 the fewest VERTICES of one (NONE)");
        countsAre(6, NONE, NONE, NONE, NONE, NONE, 10, NONE, NONE, 5);
        S.due("ring of 3", Graphs.ring(3).count(6), NONE);
        S.due("ring of 4", Graphs.ring(4).count(6), 4);
        S.due("rings of 5 and 4", Graphs.joined(9, 0, 1, 1, 2, 2, 3, 3, 4, 4, 0, 5, 6, 6, 7, 7, 8, 8, 5).count(6), 4);
        BagTrees x = Graphs.ring(4);
        x.part(0, 3);
        S.due("none any more", x.count(6), NONE);
    }

    private static void countRefuses() {
        S.says(COUNT, "BAD.");
        for (int what : new int[] {LEAST, -1, 7, GREATEST}) {
            S.due("count(" + what + ")", Graphs.ring(10).count(what), BAD);
            S.due("count(" + what + ") without VERTICES", Graphs.apart(0).count(what), BAD);
        }
    }

    // ---- promise 7

    private static void nearTells() {
        S.says("Promise 7: near", "The SET of what a VERTEX is joined to");
        S.due("no EDGES", Graphs.apart(10).near(9), 0);
        S.due("all 9 others", Graphs.star(10).near(0), 1022);
        S.due("the middle of a star", Graphs.star(10).near(9), 1);
        S.due("never itself", Graphs.complete(6).near(3), 63 - 8);
        S.due("20 EDGES", Graphs.squaredRing().near(9), 1 + 2 + 256 + 128);
        BagTrees x = Graphs.path(2);
        x.part(1, 0);
        S.due("after part", x.near(0), 0);

        S.says("Promise 7: near", "BAD.");
        for (int v : new int[] {LEAST, -32, -1, 3, 10, 32, GREATEST}) {
            S.due("near(" + v + ") of 3", Graphs.path(3).near(v), BAD);
        }
        S.due("near(0) without VERTICES", Graphs.apart(0).near(0), BAD);
        S.due("near(10) of 10", Graphs.apart(10).near(10), BAD);
    }

    // ---- promises 8, 9 and 10

    private static void widthTells() {
        S.says("Promise 8: width", "The least COST of an ORDER of a KIND (0 without VERTICES)");
        int[][] widths = {{0, 0, 0, 0, 0, 0}, {0, 0, 0, 0, 0, 1}, {1, 1, 1, 1, 0, 2}, {2, 2, 2, 2, 0, 3},
            {2, 2, 2, 2, 1, 3}, {4, 4, 4, 6, 10, 7}};
        BagTrees[] graphs = {Graphs.apart(0), Graphs.apart(1), Graphs.path(2), Graphs.ring(3), Graphs.ring(4),
            Graphs.squaredRing()};
        for (int i = 0; i < graphs.length; i++) {
            for (int kind = 0; kind < KINDS; kind++) {
                S.due("graph " + i + " width(" + kind + ")", graphs[i].width(kind), widths[i][kind]);
            }
        }
        BagTrees emptied = Graphs.squaredRing();
        emptied.width(5);
        emptied.begin(0);
        S.due("width(5) when all are gone", emptied.width(5), 0);

        S.says("Promise 8: width", "BAD.");
        for (int kind : new int[] {LEAST, -1, 6, 32, GREATEST}) {
            S.due("width(" + kind + ")", Graphs.path(3).width(kind), BAD);
            S.due("width(" + kind + ") without VERTICES", Graphs.apart(0).width(kind), BAD);
        }
    }

    private static void orderTells() {
        S.says("Promise 9: order", "VERTEX k of THE LEAST ORDER of a KIND");
        int[][] full = {{0, 1, 2, 3, 4, 5, 6, 7, 8, 9}, {0, 1, 2, 3, 4, 5, 6, 7, 8, 9},
            {0, 1, 2, 9, 8, 3, 4, 7, 6, 5}, {0, 1, 2, 3, 4, 5, 6, 7, 8, 9}, {0, 1, 2, 3, 4, 5, 6, 7, 8, 9},
            {0, 1, 2, 5, 6, 7, 3, 4, 8, 9}};
        for (int kind = 0; kind < KINDS; kind++) {
            BagTrees x = Graphs.squaredRing();
            for (int k = 0; k < 10; k++) {
                S.due("order(" + kind + ", " + k + ") of 20 EDGES", x.order(kind, k), full[kind][k]);
            }
            S.due("order(" + kind + ", 0) of one", Graphs.apart(1).order(kind, 0), 0);
            S.due("order(" + kind + ", 9) of ten apart", Graphs.apart(10).order(kind, 9), 9);
        }
    }

    private static void orderRefuses() {
        S.says("Promise 9: order", "NONE.");
        for (int kind = 0; kind < KINDS; kind++) {
            for (int n = 0; n <= 10; n++) {
                S.due("order(" + kind + ", " + n + ") of " + n, Graphs.path(n).order(kind, n), NONE);
            }
            for (int k : new int[] {LEAST, -1, 10, 32, GREATEST}) {
                S.due("order(" + kind + ", " + k + ") of 10", Graphs.squaredRing().order(kind, k), NONE);
            }
        }

        S.says("Promise 9: order", "BAD: the KIND.");
        for (int kind : new int[] {LEAST, -1, 6, 32, GREATEST}) {
            S.due("order(" + kind + ", 0)", Graphs.path(3).order(kind, 0), BAD);
            S.due("order(" + kind + ", 3) of 3", Graphs.path(3).order(kind, 3), BAD);
            S.due("order(" + kind + ", -1)", Graphs.path(3).order(kind, -1), BAD);
            S.due("order(" + kind + ", 0) without VERTICES", Graphs.apart(0).order(kind, 0), BAD);
        }
    }

    private static void seenTells() {
        S.says("Promise 10: seen", "What VERTEX v SEES by THE LEAST ORDER of a KIND: as a SET");
        for (int kind = 0; kind < KINDS; kind++) {
            S.due("seen(" + kind + ", 0) of one: the empty SET", Graphs.apart(1).seen(kind, 0), 0);
            S.due("seen(" + kind + ", 0) of all of 6", Graphs.complete(6).seen(kind, 0), 62);
            S.due("seen(" + kind + ", 5) of all of 6", Graphs.complete(6).seen(kind, 5), 0);
        }
        S.due("the middle of a star, first", Graphs.star(10).seen(1, 0), 1022);
        S.due("the middle of a star, last", Graphs.star(10).seen(5, 0), 0);
        S.due("20 EDGES, the first", Graphs.squaredRing().seen(0, 0), 2 + 4 + 256 + 512);
        S.due("20 EDGES, past one", Graphs.squaredRing().seen(0, 1), 4 + 8 + 256 + 512);

        S.says("Promise 10: seen", "BAD.");
        for (int wrong : new int[] {LEAST, -32, -1, 6, 32, GREATEST}) {
            S.due("seen(" + wrong + ", 0)", Graphs.path(6).seen(wrong, 0), BAD);
            S.due("seen(0, " + wrong + ") of 6", Graphs.path(6).seen(0, wrong), BAD);
            S.due("seen(" + wrong + ", " + wrong + ") of 6", Graphs.path(6).seen(wrong, wrong), BAD);
        }
        S.due("seen(0, 0) without VERTICES", Graphs.apart(0).seen(0, 0), BAD);
        S.due("seen(5, 10) of 10", Graphs.apart(10).seen(5, 10), BAD);
    }

    // ---- promises 11 and 12

    private static void separatorTells() {
        S.says("Promise 11: separator", "SEPARATOR k, by rising numbers");
        BagTrees ring = Graphs.ring(5);
        int[] sets = {5, 9, 10, 18, 20};
        for (int k = 0; k < sets.length; k++) {
            S.due("separator(" + k + ") of a ring of 5", ring.separator(k), sets[k]);
        }
        S.due("the empty SET goes first", Graphs.joined(4, 1, 2, 2, 3).separator(0), 0);
        S.due("then the middle", Graphs.joined(4, 1, 2, 2, 3).separator(1), 4);
        int rings = 0;
        BagTrees ten = Graphs.ring(10);
        for (int set = 0; set < 1024; set++) {
            // two that are no neighbours
            if (Integer.bitCount(set) == 2 && (set & set << 1) == 0 && set != 513) {
                S.due("separator(" + rings + ") of a ring of 10", ten.separator(rings), set);
                rings++;
            }
        }
        S.due("past the last of them", ten.separator(rings), NONE);

        S.says("Promise 11: separator", "NONE: there are not so many");
        for (int k : new int[] {LEAST, -1, 5, 1024, GREATEST}) {
            S.due("separator(" + k + ") of a ring of 5", Graphs.ring(5).separator(k), NONE);
            S.due("separator(" + k + ") without VERTICES", Graphs.apart(0).separator(k), NONE);
        }
        S.due("separator(0) without VERTICES", Graphs.apart(0).separator(0), NONE);
        S.due("separator(0) of one", Graphs.apart(1).separator(0), NONE);
        S.due("separator(0) of all of 6", Graphs.complete(6).separator(0), NONE);
        S.due("separator(1) of ten apart", Graphs.apart(10).separator(1), NONE);
    }

    private static void cliqueTells() {
        S.says("Promise 12: clique", "CLIQUE k, by rising numbers");
        BagTrees apart = Graphs.apart(10);
        for (int k = 0; k < 10; k++) {
            S.due("clique(" + k + ") of ten apart", apart.clique(k), 1 << k);
        }
        BagTrees squared = Graphs.squaredRing();
        int[] sets = {7, 14, 28, 56, 112, 224, 448, 515, 769, 896};
        for (int k = 0; k < sets.length; k++) {
            S.due("clique(" + k + ") of 20 EDGES", squared.clique(k), sets[k]);
        }

        S.says("Promise 12: clique", "NONE.");
        for (int k : new int[] {LEAST, -1, 10, 1024, GREATEST}) {
            S.due("clique(" + k + ") of 20 EDGES", Graphs.squaredRing().clique(k), NONE);
            S.due("clique(" + k + ") without VERTICES", Graphs.apart(0).clique(k), NONE);
        }
        S.due("clique(0) without VERTICES", Graphs.apart(0).clique(0), NONE);
        S.due("clique(1) of one", Graphs.apart(1).clique(1), NONE);
        S.due("clique(1) of all of 6", Graphs.complete(6).clique(1), NONE);
    }

    // ---- promise 13

    private static final String TOTAL = "Promise 13: total";

    private static void totalTakes() {
        S.says(TOTAL, "A TOTAL; q, 0 .. 10");
        long[] ways = {0, 0, 2, 12, 36, 80, 150, 252, 392, 576, 810};
        for (int q = 0; q <= 10; q++) {
            S.due("total(1, " + q + ") of a path of 3", Graphs.path(3).total(1, q), (long) q * (q - 1) * (q - 1));
            S.due("total(1, " + q + ") told", Graphs.path(3).total(1, q), ways[q]);
            S.due("total(1, " + q + ") without VERTICES", Graphs.apart(0).total(1, q), 1);
        }

        S.says(TOTAL, "is looked at for 1 alone");
        long[] totals = {7, 0, 7, 2, 11, 1, 4, 4, 15, 5, 14, 7, 13, 2};
        for (int q : new int[] {LEAST, -1, 0, 10, 11, GREATEST}) {
            for (int what = 0; what < totals.length; what++) {
                if (what != 1) {
                    S.due("total(" + what + ", " + q + ") of a ring of 4", Graphs.ring(4).total(what, q), totals[what]);
                }
            }
        }
    }

    private static void totalRefuses() {
        S.says(TOTAL, "BAD.");
        for (int what : new int[] {LEAST, -1, 14, 32, GREATEST}) {
            S.due("total(" + what + ", 0)", Graphs.ring(4).total(what, 0), BAD);
            S.due("total(" + what + ", 11)", Graphs.ring(4).total(what, 11), BAD);
            S.due("total(" + what + ", 0) without VERTICES", Graphs.apart(0).total(what, 0), BAD);
        }
        for (int q : new int[] {LEAST, -1, 11, GREATEST}) {
            S.due("total(1, " + q + ")", Graphs.ring(4).total(1, q), BAD);
            S.due("total(1, " + q + ") without VERTICES", Graphs.apart(0).total(1, q), BAD);
        }
    }

    // ---- promises 14 and 15

    private static BagTrees weighedRing() {
        return Graphs.weighed(Graphs.ring(5), 1000, 0, 30, 0, 7);
    }

    private static void bestTells() {
        S.says("Promise 14: best", "A BEST;");
        int[] none = {0, 0, 0, NONE, 0};
        int[] one = {1000, 1000, 0, 1000, 0};
        int[] ring = {1030, 0, 7, 1007, 1037};
        int[] full = {3, 2, 7, 3, 9};
        for (int what = 0; what < 5; what++) {
            S.due("best(" + what + ") without VERTICES", Graphs.apart(0).best(what), none[what]);
            S.due("best(" + what + ") of one", Graphs.weighed(Graphs.apart(1), 1000).best(what), one[what]);
            S.due("best(" + what + ") of a ring", weighedRing().best(what), ring[what]);
            S.due("best(" + what + ") of 20 EDGES", Graphs.squaredRing().best(what), full[what]);
        }

        S.says("Promise 14: best", "NONE: there is no such SET");
        S.due("best(3) without VERTICES", Graphs.apart(0).best(3), NONE);
        S.due("best(3) of one", Graphs.apart(1).best(3), 1);
        S.due("best(3) of one without WEIGHT", Graphs.weighed(Graphs.apart(1), 0).best(3), 0);
        BagTrees gone = Graphs.ring(10);
        gone.begin(0);
        S.due("best(3) when all are gone", gone.best(3), NONE);

        S.says("Promise 14: best", "BAD.");
        for (int what : new int[] {LEAST, -1, 5, 32, GREATEST}) {
            S.due("best(" + what + ")", Graphs.ring(4).best(what), BAD);
            S.due("best(" + what + ") without VERTICES", Graphs.apart(0).best(what), BAD);
        }
    }

    private static void whichTells() {
        S.says("Promise 15: which", "The SET that has a BEST;");
        int[] none = {0, 0, 0, NONE, 0};
        int[] one = {1, 1, 0, 1, 0};
        int[] ring = {5, 10, 26, 17, 23};
        int[] full = {73, 33, 439, 7, 511};
        for (int what = 0; what < 5; what++) {
            S.due("which(" + what + ") without VERTICES", Graphs.apart(0).which(what), none[what]);
            S.due("which(" + what + ") of one", Graphs.weighed(Graphs.apart(1), 1000).which(what), one[what]);
            S.due("which(" + what + ") of a ring", weighedRing().which(what), ring[what]);
            S.due("which(" + what + ") of 20 EDGES", Graphs.squaredRing().which(what), full[what]);
        }

        S.says("Promise 15: which", "NONE.");
        S.due("which(3) without VERTICES", Graphs.apart(0).which(3), NONE);
        S.due("which(3) of one without WEIGHT", Graphs.weighed(Graphs.apart(1), 0).which(3), 1);

        S.says("Promise 15: which", "BAD.");
        for (int what : new int[] {LEAST, -1, 5, 32, GREATEST}) {
            S.due("which(" + what + ")", Graphs.ring(4).which(what), BAD);
            S.due("which(" + what + ") without VERTICES", Graphs.apart(0).which(what), BAD);
        }
    }

    // ---- promise 16

    private static final String FEWEST = "Promise 16: fewest";

    private static void fewestTells() {
        S.says(FEWEST, "The fewest EDGES by which all VERTICES of a SET hang together");
        for (int n = 0; n <= 10; n++) {
            S.due("the empty SET of " + n, Graphs.apart(n).fewest(0), 0);
            S.due("all of a path of " + n, Graphs.path(n).fewest((1 << n) - 1), Math.max(0, n - 1));
        }
        for (int v = 0; v < 10; v++) {
            S.due("one VERTEX alone", Graphs.apart(10).fewest(1 << v), 0);
        }
        S.due("all of 20 EDGES", Graphs.squaredRing().fewest(1023), 9);
        S.due("a ring needs not be closed", Graphs.ring(3).fewest(7), 2);

        S.says(FEWEST, "(others may be between them)");
        S.due("the ends of a path of 10", Graphs.path(10).fewest(513), 9);
        S.due("all but the middle of a star", Graphs.star(10).fewest(1022), 9);
        S.due("the shorter way round", Graphs.ring(6).fewest(5), 2);
        S.due("either way round", Graphs.ring(6).fewest(9), 3);
        S.due("20 EDGES, across", Graphs.squaredRing().fewest(33), 3);
    }

    private static void fewestRefuses() {
        S.says(FEWEST, "NONE: they do not");
        S.due("two apart", Graphs.apart(2).fewest(3), NONE);
        S.due("ten apart", Graphs.apart(10).fewest(1023), NONE);
        BagTrees x = Graphs.joined(4, 0, 1, 2, 3);
        S.due("across two PARTS", x.fewest(5), NONE);
        S.due("all of two PARTS", x.fewest(15), NONE);
        S.due("within one of two PARTS", x.fewest(12), 1);
        x.join(1, 2);
        S.due("when they are one", x.fewest(15), 3);

        S.says(FEWEST, "BAD: it is no SET of VERTICES.");
        for (int n = 0; n <= 10; n++) {
            S.due("the first past all of " + n, Graphs.path(n).fewest(1 << n), BAD);
            S.due("fewest(-1) of " + n, Graphs.path(n).fewest(-1), BAD);
            S.due("fewest(least) of " + n, Graphs.path(n).fewest(LEAST), BAD);
            S.due("fewest(greatest) of " + n, Graphs.path(n).fewest(GREATEST), BAD);
        }
    }

    // ---- a refused call changes nothing

    private static BagTrees busy() {
        return Graphs.weighed(Graphs.complete(7), 0, 1, 1000, 3, 4, 5, 6);
    }

    private static final long[] BUSY = Graphs.state(busy());

    private static void refused(String name, long want, Call call) {
        BagTrees x = busy();
        S.due(name, call.ask(x), want);
        S.holds(name + " changes nothing", Arrays.equals(Graphs.state(x), BUSY));
        S.due(name + " again", call.ask(x), want);
    }

    private static void refusedCallsChangeNothing() {
        S.says("Terms", "REFUSALS are answers");
        for (int n : new int[] {LEAST, -1, 11, GREATEST}) {
            refused("begin(" + n + ")", BAD, x -> x.begin(n));
        }
        for (int v : new int[] {LEAST, -32, -1, 7, 32, GREATEST}) {
            refused("join(" + v + ", 0)", BAD, x -> x.join(v, 0));
            refused("join(0, " + v + ")", BAD, x -> x.join(0, v));
            refused("part(" + v + ", 0)", BAD, x -> x.part(v, 0));
            refused("part(0, " + v + ")", BAD, x -> x.part(0, v));
            refused("weigh(" + v + ", 9)", BAD, x -> x.weigh(v, 9));
            refused("near(" + v + ")", BAD, x -> x.near(v));
            refused("seen(0, " + v + ")", BAD, x -> x.seen(0, v));
            refused("order(0, " + v + ")", NONE, x -> x.order(0, v));
        }
        for (int v = 0; v < 7; v++) {
            int same = v;
            refused("join(" + v + ", " + v + ")", BAD, x -> x.join(same, same));
            refused("part(" + v + ", " + v + ")", NONE, x -> x.part(same, same));
        }
        refused("join(0, 1)", THERE, x -> x.join(0, 1));
        refused("join(5, 6)", FULL, x -> x.join(5, 6));
        refused("part(5, 6)", NONE, x -> x.part(5, 6));
        for (int number : new int[] {LEAST, -1, 1001, GREATEST}) {
            refused("weigh(3, " + number + ")", BAD, x -> x.weigh(3, number));
            refused("count(" + number + ")", BAD, x -> x.count(number));
            refused("width(" + number + ")", BAD, x -> x.width(number));
            refused("order(" + number + ", 0)", BAD, x -> x.order(number, 0));
            refused("seen(" + number + ", 0)", BAD, x -> x.seen(number, 0));
            refused("separator(" + number + ")", NONE, x -> x.separator(number));
            refused("clique(" + number + ")", NONE, x -> x.clique(number));
            refused("total(" + number + ", 0)", BAD, x -> x.total(number, 0));
            refused("total(1, " + number + ")", BAD, x -> x.total(1, number));
            refused("best(" + number + ")", BAD, x -> x.best(number));
            refused("which(" + number + ")", BAD, x -> x.which(number));
            refused("fewest(" + number + ")", BAD, x -> x.fewest(number));
        }
    }
}
