/**
 * Each sentence of "What it is", "The public face" and "Terms" that names a boundary case. The answers were worked
 * out by hand, but for most of those about the grid and about 10 VERTICES with 20 EDGES, which are Oracle's.
 */
public final class TermsTest {
    private static final int NONE = BagTrees.NONE, BAD = BagTrees.BAD, FULL = BagTrees.FULL, THERE = BagTrees.THERE;
    private static final int KINDS = 6;
    private static final Sentences S = new Sentences("TermsTest");

    public static void main(String[] args) {
        callsOfAnObject();
        constants();
        numbersOfVertices();
        howManyVertices();
        weights();
        edgesJoinDifferentOnes();
        edgesAreNotTheSame();
        edgesAreTwentyAtMost();
        numbersOfSets();
        orders();
        kinds();
        separators();
        cliques();
        holes();
        totalsOfSets();
        totalsOfColours();
        totalsOfEdgeSets();
        totalsThatJoin();
        totalsOfRings();
        bests();
        leastNumberCounts();
        refusals();
        S.end();
    }

    private static void term(String words) {
        S.says("Terms", words);
    }

    // ---- what it is, the public face

    private static void callsOfAnObject() {
        S.says("What it is", "An object is used for at most 512 calls after it has been made");
        BagTrees fresh = Graphs.squaredRing();
        for (int method = 0; method < 15; method++) {
            BagTrees x = Graphs.squaredRing();
            // 21 calls have been made: 245 pairs bring it back as it was at the 511th
            for (int i = 0; i < 245; i++) {
                x.part(i % 10, (i + 1) % 10);
                x.join((i + 1) % 10, i % 10);
            }
            S.due("the 512th call, of method " + method, ask(x, method), ask(fresh, method));
            fresh = Graphs.squaredRing();
        }
    }

    private static long ask(BagTrees x, int method) {
        switch (method) {
            case 0: return x.begin(3);
            case 1: return x.join(0, 5);
            case 2: return x.part(9, 0);
            case 3: return x.weigh(9, 7);
            case 4: return x.count(5);
            case 5: return x.near(9);
            case 6: return x.width(2);
            case 7: return x.order(5, 9);
            case 8: return x.seen(4, 4);
            case 9: return x.separator(1);
            case 10: return x.clique(9);
            case 11: return x.total(1, 10);
            case 12: return x.best(0);
            case 13: return x.which(1);
            default: return x.fewest(33);
        }
    }

    private static void constants() {
        S.says("The public face", "public static final int NONE = -1, BAD = -2, FULL = -3, THERE = -4;");
        S.due("NONE", BagTrees.NONE, -1);
        S.due("BAD", BagTrees.BAD, -2);
        S.due("FULL", BagTrees.FULL, -3);
        S.due("THERE", BagTrees.THERE, -4);
    }

    // ---- VERTICES, WEIGHTS, EDGES, SETS

    private static void numbersOfVertices() {
        term("VERTICES are 0 .. n - 1");
        for (int n = 0; n <= 10; n++) {
            isVertex(n, 0, n > 0);
            isVertex(n, n - 1, n > 0);
            isVertex(n, -1, false);
            isVertex(n, n, false);
            // these would be bit 0 or bit 1 if a shift were wrapped around
            isVertex(n, 32, false);
            isVertex(n, -32, false);
            isVertex(n, 33, false);
        }
    }

    private static void isVertex(int n, int v, boolean itIs) {
        BagTrees x = Graphs.apart(n);
        String name = v + " of " + n;
        S.due(name + " near", x.near(v), itIs ? 0 : BAD);
        S.due(name + " weigh", x.weigh(v, 5), itIs ? 1 : BAD);
        S.due(name + " seen", x.seen(0, v), itIs ? 0 : BAD);
        int other = v == 0 ? 1 : 0;
        int joined = itIs && n > 1 ? 1 : BAD;
        S.due(name + " join", x.join(v, other), joined);
        S.due(name + " part", x.part(v, other), joined == 1 ? 0 : BAD);
        S.due(name + " join, second", x.join(other, v), joined);
        S.due(name + " part, second", x.part(other, v), joined == 1 ? 0 : BAD);
    }

    private static void howManyVertices() {
        term("n 0 .. 10");
        BagTrees x = new BagTrees();
        int before = 0;
        for (int n = 0; n <= 10; n++) {
            S.due("begin(" + n + ")", x.begin(n), before);
            S.due("count(0)", x.count(0), n);
            before = n;
        }
        S.due("begin(11)", x.begin(11), BAD);
        S.due("begin(-1)", x.begin(-1), BAD);
        S.due("count(0) then", x.count(0), 10);
    }

    private static void weights() {
        term("each has a WEIGHT 0 .. 1000");
        BagTrees x = Graphs.apart(10);
        for (int v = 0; v < 10; v++) {
            S.due("weigh(" + v + ", 0)", x.weigh(v, 0), 1);
            S.due("weigh(" + v + ", 1000)", x.weigh(v, 1000), 0);
            S.due("weigh(" + v + ", 1001)", x.weigh(v, 1001), BAD);
            S.due("weigh(" + v + ", -1)", x.weigh(v, -1), BAD);
            S.due("weigh(" + v + ", greatest)", x.weigh(v, Integer.MAX_VALUE), BAD);
            S.due("weigh(" + v + ", least)", x.weigh(v, Integer.MIN_VALUE), BAD);
        }
        S.due("all of them together", x.best(0), 10000);
    }

    private static void edgesJoinDifferentOnes() {
        term("EDGES join two different VERTICES each");
        for (int n = 1; n <= 10; n++) {
            BagTrees x = Graphs.apart(n);
            for (int v = 0; v < n; v++) {
                S.due("join(" + v + ", " + v + ")", x.join(v, v), BAD);
                S.due("near(" + v + ")", x.near(v), 0);
            }
            S.due("count(1)", x.count(1), 0);
        }
    }

    private static void edgesAreNotTheSame() {
        term("no two of them the same ones");
        BagTrees x = Graphs.apart(10);
        S.due("join(0, 9)", x.join(0, 9), 1);
        S.due("join(0, 9) again", x.join(0, 9), THERE);
        S.due("join(9, 0)", x.join(9, 0), THERE);
        S.due("count(1)", x.count(1), 1);
        S.due("part(9, 0)", x.part(9, 0), 0);
        S.due("part(0, 9)", x.part(0, 9), NONE);
    }

    private static void edgesAreTwentyAtMost() {
        term("20 at most");
        BagTrees x = Graphs.apart(10);
        int edges = 0;
        for (int a = 0; a < 10; a++) {
            for (int b = a + 1; b < 10; b++) {
                S.due("join(" + a + ", " + b + ")", x.join(a, b), edges < 20 ? ++edges : FULL);
            }
        }
        S.due("count(1)", x.count(1), 20);
    }

    private static void numbersOfSets() {
        term("SETS of VERTICES are told as numbers: bit v for VERTEX v");
        for (int v = 0; v < 10; v++) {
            BagTrees x = Graphs.apart(10);
            int other = (v + 1) % 10;
            x.join(other, v);
            S.due("near(" + other + ")", x.near(other), 1 << v);
            x.part(other, v);
            S.due("clique(" + v + ")", x.clique(v), 1 << v);
        }
        S.due("the SET of all 10", Graphs.apart(10).which(0), 1023);
        S.due("the empty SET", Graphs.apart(10).which(2), 0);
    }

    // ---- ORDERS

    private static void orders() {
        term("AN ORDER has all VERTICES, each once");
        for (int n = 0; n <= 10; n++) {
            for (int kind = 0; kind < KINDS; kind++) {
                S.due("star of " + n + " by kind " + kind, met(Graphs.star(n), kind), (1 << n) - 1);
                S.due("path of " + n + " by kind " + kind, met(Graphs.path(n), kind), (1 << n) - 1);
            }
        }
        for (int kind = 0; kind < KINDS; kind++) {
            S.due("20 EDGES by kind " + kind, met(Graphs.squaredRing(), kind), 1023);
        }

        term("By it a VERTEX SEES those behind it that an EDGE joins it to");
        for (int kind = 0; kind < KINDS; kind++) {
            BagTrees x = Graphs.squaredRing();
            S.due("the first one SEES all that it is joined to, kind " + kind,
                    x.seen(kind, x.order(kind, 0)), x.near(x.order(kind, 0)));
            S.due("the last one SEES none, kind " + kind, x.seen(kind, x.order(kind, 9)), 0);
            S.due("none SEES one of ten apart", Graphs.apart(10).seen(kind, 0), 0);
            S.due("each SEES all behind it of all of 6", Graphs.complete(6).seen(kind, 2), 56);
        }

        term("or a way of EDGES whose VERTICES between both are all ahead of it");
        S.due("past one that is ahead", Graphs.star(5).seen(1, 1), 28);
        S.due("past eight that are ahead", Graphs.ring(10).seen(4, 8), 512);
        S.due("past seven that are ahead", Graphs.ring(10).seen(4, 7), 768);
        S.due("not past one that is behind", Graphs.path(4).seen(0, 0), 2);
        S.due("not past one ahead and one behind", Graphs.path(4).seen(4, 1), 4);

        term("of those of the least COST the one whose first VERTEX is least, of these whose second is, and so on");
        for (int kind = 0; kind < KINDS; kind++) {
            orderIs(Graphs.apart(10), kind, 0, 1, 2, 3, 4, 5, 6, 7, 8, 9);
            orderIs(Graphs.complete(6), kind, 0, 1, 2, 3, 4, 5);
        }
        int[][] rows = {{1, 0, 2}, {0, 1, 2}, {1, 0, 2}, {1, 0, 2}, {1, 0, 2}, {1, 2, 0}};
        int[][] starRows = {{1, 2, 3, 0, 4}, {0, 1, 2, 3, 4}, {1, 2, 0, 3, 4}, {1, 2, 0, 3, 4}, {1, 2, 3, 0, 4},
            {1, 2, 3, 4, 0}};
        for (int kind = 0; kind < KINDS; kind++) {
            orderIs(Graphs.joined(3, 1, 0, 0, 2), kind, rows[kind]);
            orderIs(Graphs.star(5), kind, starRows[kind]);
        }
    }

    private static int met(BagTrees x, int kind) {
        int met = 0;
        for (int k = 0; k < x.count(0); k++) {
            met += 1 << x.order(kind, k);
        }
        return met;
    }

    private static void orderIs(BagTrees x, int kind, int... row) {
        for (int k = 0; k < row.length; k++) {
            S.due("order(" + kind + ", " + k + ") of " + row.length, x.order(kind, k), row[k]);
        }
    }

    /** From no VERTICES to 10 of them, from no EDGES to 20. */
    private static void widthsAre(int kind, int... widths) {
        BagTrees[] graphs = {Graphs.apart(0), Graphs.apart(1), Graphs.apart(10), Graphs.path(10), Graphs.ring(3),
            Graphs.ring(10), Graphs.star(10), Graphs.complete(6), Graphs.grid(), Graphs.squaredRing()};
        String[] names = {"none", "one", "ten apart", "path of 10", "ring of 3", "ring of 10", "star of 10", "all of 6",
            "grid of 9", "10 VERTICES and 20 EDGES"};
        for (int i = 0; i < graphs.length; i++) {
            S.due(names[i], graphs[i].width(kind), widths[i]);
        }
    }

    private static void kinds() {
        term("0: the most VERTICES that one SEES");
        widthsAre(0, 0, 0, 0, 1, 2, 2, 1, 5, 3, 4);
        term("1: for each k, how many of the first k VERTICES an EDGE joins to one behind these: the most");
        // ahead of all it is one of the first, behind all they would be many
        orderIs(Graphs.star(5), 1, 0, 1, 2, 3, 4);
        widthsAre(1, 0, 0, 0, 1, 2, 2, 1, 5, 3, 4);
        term("2: how many places apart the ends of an EDGE are: the most");
        widthsAre(2, 0, 0, 0, 1, 2, 2, 5, 5, 3, 4);
        term("3: for each k, how many EDGES join one of the first k to one behind these: the most");
        widthsAre(3, 0, 0, 0, 1, 2, 2, 5, 9, 4, 6);
        term("4: how many pairs there are of which one SEES the other and no EDGE joins them");
        widthsAre(4, 0, 0, 0, 0, 0, 7, 0, 0, 5, 10);
        term("5: the PARENT of a VERTEX being the first one that it SEES, "
                + "the most VERTICES in a row each of which is the PARENT of the one before it");
        widthsAre(5, 0, 1, 1, 4, 3, 5, 2, 6, 5, 7);
    }

    // ---- SEPARATORS, CLIQUES, HOLES

    private static void separatorsAre(String name, BagTrees x, int... sets) {
        for (int k = 0; k < sets.length; k++) {
            S.due(name + " separator(" + k + ")", x.separator(k), sets[k]);
        }
        S.due(name + " separator(" + sets.length + ")", x.separator(sets.length), NONE);
    }

    private static void separators() {
        term("A SEPARATOR: a SET, perhaps empty");
        separatorsAre("two apart", Graphs.apart(2), 0);
        separatorsAre("ten apart", Graphs.apart(10), 0);
        separatorsAre("a pair and one", Graphs.joined(3, 0, 1), 0);
        separatorsAre("a pair", Graphs.path(2));

        term("two different PARTS at least (VERTICES that hang together by EDGES)");
        separatorsAre("none", Graphs.apart(0));
        separatorsAre("one", Graphs.apart(1));
        separatorsAre("all of 6", Graphs.complete(6));
        separatorsAre("nine PARTS are left", Graphs.star(10), 1);
        separatorsAre("all but an EDGE of 7: two are left", Graphs.complete(7), 31);

        term("have, each, an EDGE to each VERTEX of it");
        separatorsAre("path of 4: 1 and 2 together are none", Graphs.path(4), 2, 4);
        separatorsAre("a third PART that has not: it need not",
                Graphs.joined(5, 0, 1, 1, 2, 2, 3, 3, 0, 0, 4), 1, 5, 10);
    }

    private static void cliquesAre(String name, BagTrees x, int... sets) {
        for (int k = 0; k < sets.length; k++) {
            S.due(name + " clique(" + k + ")", x.clique(k), sets[k]);
        }
        S.due(name + " clique(" + sets.length + ")", x.clique(sets.length), NONE);
    }

    private static void cliques() {
        term("A CLIQUE: a SET, not empty");
        cliquesAre("none", Graphs.apart(0));
        cliquesAre("one", Graphs.apart(1), 1);

        term("each two of which an EDGE joins");
        cliquesAre("ten apart", Graphs.apart(10), 1, 2, 4, 8, 16, 32, 64, 128, 256, 512);
        cliquesAre("ring of 4", Graphs.ring(4), 3, 6, 9, 12);
        cliquesAre("all but an EDGE of 7", Graphs.complete(7), 63, 95);

        term("and which no other VERTEX can come to so");
        cliquesAre("all of 6", Graphs.complete(6), 63);
        cliquesAre("a pair and one", Graphs.joined(3, 0, 1), 3, 4);
    }

    private static void holesAre(String name, BagTrees x, int holes, int fewest) {
        S.due(name + " count(5)", x.count(5), holes);
        S.due(name + " count(6)", x.count(6), fewest);
    }

    private static void holes() {
        term("A HOLE: four VERTICES or more");
        holesAre("none", Graphs.apart(0), 0, NONE);
        holesAre("ring of 3", Graphs.ring(3), 0, NONE);
        holesAre("ring of 4", Graphs.ring(4), 1, 4);
        holesAre("ring of 10", Graphs.ring(10), 1, 10);

        term("each joined by an EDGE to just two others of them");
        holesAre("path of 4", Graphs.path(4), 0, NONE);
        holesAre("all of 4", Graphs.complete(4), 0, NONE);
        holesAre("ring of 4 with a chord", Graphs.joined(4, 0, 1, 1, 2, 2, 3, 3, 0, 0, 2), 0, NONE);
        holesAre("ring of 6 with a chord", Graphs.joined(6, 0, 1, 1, 2, 2, 3, 3, 4, 4, 5, 5, 0, 0, 2), 1, 5);

        term("in one ring");
        holesAre("two rings of 3", Graphs.joined(6, 0, 1, 1, 2, 2, 0, 3, 4, 4, 5, 5, 3), 0, NONE);
        holesAre("two rings of 4", Graphs.joined(8, 0, 1, 1, 2, 2, 3, 3, 0, 4, 5, 5, 6, 6, 7, 7, 4), 2, 4);
        holesAre("rings of 3 and 4", Graphs.joined(7, 0, 1, 1, 2, 2, 0, 3, 4, 4, 5, 5, 6, 6, 3), 1, 4);
    }

    // ---- TOTALS

    /** From no VERTICES to 10 of them, from no EDGES to 20; q is not looked at. */
    private static void totalsAre(int what, long... totals) {
        BagTrees[] graphs = {Graphs.apart(0), Graphs.apart(1), Graphs.apart(2), Graphs.path(2), Graphs.ring(3),
            Graphs.apart(10), Graphs.star(10), Graphs.ring(10), Graphs.complete(5), Graphs.squaredRing()};
        String[] names = {"none", "one", "two apart", "a pair", "ring of 3", "ten apart", "star of 10", "ring of 10",
            "all of 5", "10 VERTICES and 20 EDGES"};
        for (int i = 0; i < graphs.length; i++) {
            S.due(names[i], graphs[i].total(what, 0), totals[i]);
        }
    }

    private static void totalsOfSets() {
        term("0 SETS (also the empty one) of which no two are joined by an EDGE");
        totalsAre(0, 1, 2, 4, 3, 4, 1024, 513, 123, 6, 46);
        term("4 SETS such that each VERTEX is in it, or joined to one in it");
        totalsAre(4, 1, 1, 1, 3, 7, 1, 513, 443, 31, 863);
        term("12 SETS, not empty, that hang together by EDGES between them");
        totalsAre(12, 0, 1, 2, 3, 7, 10, 521, 91, 31, 663);
    }

    private static void totalsOfColours() {
        term("1 ways to give each VERTEX one of q colours, ends of an EDGE having different ones");
        S.due("no VERTICES, no colours", Graphs.apart(0).total(1, 0), 1);
        S.due("no VERTICES, 10 colours", Graphs.apart(0).total(1, 10), 1);
        S.due("one VERTEX, no colours", Graphs.apart(1).total(1, 0), 0);
        S.due("one VERTEX, 10 colours", Graphs.apart(1).total(1, 10), 10);
        S.due("ten apart, no colours", Graphs.apart(10).total(1, 0), 0);
        S.due("ten apart, one colour", Graphs.apart(10).total(1, 1), 1);
        S.due("ten apart, 10 colours: no int holds it", Graphs.apart(10).total(1, 10), 10000000000L);
        S.due("a pair, one colour", Graphs.path(2).total(1, 1), 0);
        S.due("path of 10, 10 colours: no int holds it", Graphs.path(10).total(1, 10), 3874204890L);
        S.due("all of 6, 5 colours", Graphs.complete(6).total(1, 5), 0);
        S.due("all of 6, 6 colours", Graphs.complete(6).total(1, 6), 720);
        S.due("20 EDGES, 3 colours", Graphs.squaredRing().total(1, 3), 0);
        S.due("20 EDGES, 10 colours", Graphs.squaredRing().total(1, 10), 1073862720L);
    }

    private static void totalsOfEdgeSets() {
        term("2 sets of EDGES of which no two have an end in common");
        totalsAre(2, 1, 1, 1, 2, 4, 1, 10, 123, 26, 708);
        term("3 of these those of which each VERTEX is an end");
        totalsAre(3, 1, 0, 0, 1, 0, 0, 0, 2, 0, 22);
        term("11 sets of EDGES such that each VERTEX is an end of one");
        totalsAre(11, 1, 0, 0, 1, 4, 0, 1, 123, 768, 590758);
        term("13 sets of EDGES such that each VERTEX is an end of an even number of them");
        totalsAre(13, 1, 1, 1, 1, 2, 1, 1, 2, 64, 2048);
    }

    private static void totalsThatJoin() {
        term("7 that join all VERTICES, without a ring");
        totalsAre(7, 0, 1, 0, 1, 3, 0, 1, 10, 125, 30250);
        term("8 without a ring");
        totalsAre(8, 1, 1, 1, 2, 7, 1, 512, 1023, 291, 184123);
        term("9 that join all VERTICES (by ways of EDGES; 7 and 9 without VERTICES: none)");
        totalsAre(9, 0, 1, 0, 1, 4, 0, 1, 11, 728, 459020);
        S.due("7 without VERTICES", Graphs.apart(0).total(7, 0), 0);
    }

    private static void totalsOfRings() {
        term("5 sets of EDGES that are a ring through all VERTICES");
        totalsAre(5, 0, 0, 0, 0, 1, 0, 0, 1, 12, 56);
        S.due("two rings of 3", Graphs.joined(6, 0, 1, 1, 2, 2, 0, 3, 4, 4, 5, 5, 3).total(5, 0), 0);
        S.due("a ring past which one is left", Graphs.joined(4, 0, 1, 1, 2, 2, 0).total(5, 0), 0);
        term("6 that are a way through all, each once (with one VERTEX: the empty one)");
        totalsAre(6, 0, 1, 0, 1, 3, 0, 0, 10, 60, 1200);
        term("10 directions of all EDGES without a ring that can be gone along them");
        totalsAre(10, 1, 1, 1, 2, 6, 1, 512, 1022, 120, 50640);
    }

    // ---- BESTS

    private static void bestIs(String name, BagTrees x, int what, int weight, int set) {
        S.due(name + " best(" + what + ")", x.best(what), weight);
        S.due(name + " which(" + what + ")", x.which(what), set);
    }

    private static BagTrees heavyTen() {
        return Graphs.weighed(Graphs.apart(10), 1000, 1000, 1000, 1000, 1000, 1000, 1000, 1000, 1000, 1000);
    }

    private static void bests() {
        term("0 the greatest WEIGHT (of all in it together) of a SET of which no two are joined");
        bestIs("none", Graphs.apart(0), 0, 0, 0);
        bestIs("one", Graphs.apart(1), 0, 1, 1);
        bestIs("ten of 1000", heavyTen(), 0, 10000, 1023);
        bestIs("star of 10", Graphs.star(10), 0, 9, 1022);
        bestIs("heavy star", Graphs.weighed(Graphs.star(10), 10), 0, 10, 1);

        term("1 the least WEIGHT of a SET as in 4");
        bestIs("none", Graphs.apart(0), 1, 0, 0);
        bestIs("one", Graphs.apart(1), 1, 1, 1);
        bestIs("ten of 1000", heavyTen(), 1, 10000, 1023);
        bestIs("star of 10", Graphs.star(10), 1, 1, 1);
        bestIs("heavy star", Graphs.weighed(Graphs.star(10), 10), 1, 9, 1022);

        term("2 the least of a SET such that each EDGE has an end in it");
        bestIs("none", Graphs.apart(0), 2, 0, 0);
        bestIs("one", Graphs.apart(1), 2, 0, 0);
        bestIs("no EDGES", heavyTen(), 2, 0, 0);
        bestIs("star of 10", Graphs.star(10), 2, 1, 1);
        bestIs("heavy star", Graphs.weighed(Graphs.star(10), 10), 2, 9, 1022);

        term("3 the greatest of a CLIQUE");
        bestIs("none", Graphs.apart(0), 3, NONE, NONE);
        bestIs("one", Graphs.apart(1), 3, 1, 1);
        bestIs("one of no WEIGHT: not the empty SET", Graphs.weighed(Graphs.apart(1), 0), 3, 0, 1);
        bestIs("a pair, one of no WEIGHT: both", Graphs.weighed(Graphs.path(2), 0), 3, 1, 3);
        bestIs("all of 6", Graphs.complete(6), 3, 6, 63);
        bestIs("ten of 1000", heavyTen(), 3, 1000, 1);

        term("4 the greatest of a SET without which all that is left hangs together (or nothing is left) "
                + "and which is not all, if there are VERTICES");
        bestIs("none", Graphs.apart(0), 4, 0, 0);
        bestIs("one: it may not be all", Graphs.apart(1), 4, 0, 0);
        bestIs("ten of 1000", heavyTen(), 4, 9000, 511);
        bestIs("path of 3", Graphs.weighed(Graphs.path(3), 5, 0, 7), 4, 12, 5);
        bestIs("a pair and one of no WEIGHT", Graphs.weighed(Graphs.joined(3, 0, 1), 0, 0, 0), 4, 0, 3);
    }

    private static void leastNumberCounts() {
        term("Of several SETS with it that with the least number counts");
        bestIs("ring of 4", Graphs.ring(4), 0, 2, 5);
        bestIs("ring of 4", Graphs.ring(4), 1, 2, 3);
        bestIs("ring of 4", Graphs.ring(4), 2, 2, 5);
        bestIs("ring of 4", Graphs.ring(4), 3, 2, 3);
        bestIs("ring of 4", Graphs.ring(4), 4, 3, 7);
        int[] lightest = {0, 3, 5, 3, 0};
        for (int what = 0; what < 5; what++) {
            bestIs("no WEIGHT", Graphs.weighed(Graphs.ring(4), 0, 0, 0, 0), what, 0, lightest[what]);
        }
    }

    // ---- REFUSALS

    private static void refusals() {
        term("BAD (there is no such VERTEX, KIND, what; another number is not as told) first");
        BagTrees full = Graphs.complete(7);
        S.due("join(5, 5), FULL too", full.join(5, 5), BAD);
        S.due("join(7, 0), FULL too", full.join(7, 0), BAD);
        S.due("join(0, -1), FULL too", full.join(0, -1), BAD);
        S.due("part(7, 7), NONE too", full.part(7, 7), BAD);
        S.due("part(-1, 5), NONE too", full.part(-1, 5), BAD);
        S.due("order(6, 7), NONE too", full.order(6, 7), BAD);
        S.due("order(-1, -1), NONE too", full.order(-1, -1), BAD);
        S.due("order(6, 0) without VERTICES, NONE too", Graphs.apart(0).order(6, 0), BAD);
        S.due("best(5) without VERTICES", Graphs.apart(0).best(5), BAD);
        S.due("which(5) without VERTICES", Graphs.apart(0).which(5), BAD);
        S.due("fewest(3) of one: NONE too", Graphs.apart(1).fewest(3), BAD);
        S.due("fewest(7) of two apart: NONE too", Graphs.apart(2).fewest(7), BAD);

        term("then what a call names, in the order named");
        S.due("join(0, 1), THERE and FULL", full.join(0, 1), THERE);
        S.due("join(1, 0), THERE and FULL", full.join(1, 0), THERE);
        S.due("join(5, 6), FULL alone", full.join(5, 6), FULL);
        S.due("join(0, 1), THERE alone", Graphs.path(2).join(0, 1), THERE);
    }
}
