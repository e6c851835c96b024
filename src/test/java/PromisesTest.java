/** Each promise with answers worked out by hand: ordinary inputs, edges, and wrong inputs. */
public final class PromisesTest {
    private static final int NONE = BagTrees.NONE, BAD = BagTrees.BAD, FULL = BagTrees.FULL, THERE = BagTrees.THERE;
    private static final int KINDS = 6;
    private static final int[] EXTREMES = {Integer.MIN_VALUE, -1, 11, 32, 1024, Integer.MAX_VALUE};
    private static final Check CHECK = new Check("PromisesTest");

    public static void main(String[] args) {
        constants();
        promise1NewObject();
        promise2Begin();
        promise3Join();
        promise4Part();
        promise5Weigh();
        promise6Count();
        promise7Near();
        promise8Width();
        promise9Order();
        promise10Seen();
        promise11Separator();
        promise12Clique();
        promise13Total();
        promise13TotalWithoutVertices();
        promise13TotalOfAPair();
        promise13TotalOfTenApart();
        promise14Best();
        promise15Which();
        promise16Fewest();
        refusalsChangeNothing();
        CHECK.end();
    }

    private static void due(String call, long got, long want) {
        CHECK.due(call, got, want);
    }

    private static void orderIs(String name, BagTrees x, int kind, int... row) {
        for (int k = 0; k < row.length; k++) {
            due(name + " order(" + kind + ", " + k + ")", x.order(kind, k), row[k]);
        }
        due(name + " order past the end", x.order(kind, row.length), NONE);
    }

    // ---- the promises

    private static void constants() {
        due("NONE", BagTrees.NONE, -1);
        due("BAD", BagTrees.BAD, -2);
        due("FULL", BagTrees.FULL, -3);
        due("THERE", BagTrees.THERE, -4);
    }

    private static void promise1NewObject() {
        BagTrees x = new BagTrees();
        due("count(0)", x.count(0), 0);
        due("count(1)", x.count(1), 0);
        due("near(0)", x.near(0), BAD);
        due("join(0, 1)", x.join(0, 1), BAD);
        due("part(0, 1)", x.part(0, 1), BAD);
        due("weigh(0, 1)", x.weigh(0, 1), BAD);
        due("width(0)", x.width(0), 0);
        due("order(0, 0)", x.order(0, 0), NONE);
        due("fewest(0)", x.fewest(0), 0);
        due("fewest(1)", x.fewest(1), BAD);
        due("begin(3)", x.begin(3), 0);
    }

    private static void promise2Begin() {
        BagTrees x = new BagTrees();
        due("begin(10)", x.begin(10), 0);
        due("count(0)", x.count(0), 10);
        due("weigh(9, 1000)", x.weigh(9, 1000), 1);
        due("join(8, 9)", x.join(8, 9), 1);
        for (int n : EXTREMES) {
            due("begin(" + n + ")", x.begin(n), BAD);
        }
        due("count(0) after BAD", x.count(0), 10);
        due("count(1) after BAD", x.count(1), 1);
        due("begin(10) again", x.begin(10), 10);
        due("count(1) after begin", x.count(1), 0);
        due("near(9) after begin", x.near(9), 0);
        due("weigh(9, 5) after begin", x.weigh(9, 5), 1);
        due("begin(0)", x.begin(0), 10);
        due("begin(0) again", x.begin(0), 0);
        due("count(0) of none", x.count(0), 0);
    }

    private static void promise3Join() {
        BagTrees x = Graphs.apart(3);
        due("join(0, 1)", x.join(0, 1), 1);
        due("join(1, 0)", x.join(1, 0), THERE);
        due("join(2, 1)", x.join(2, 1), 2);
        due("join(1, 1)", x.join(1, 1), BAD);
        for (int v : EXTREMES) {
            due("join(" + v + ", 0)", x.join(v, 0), BAD);
            due("join(0, " + v + ")", x.join(0, v), BAD);
        }
        due("join(3, 0)", x.join(3, 0), BAD);
        due("join(3, 3)", x.join(3, 3), BAD);
        BagTrees full = Graphs.complete(7);
        due("20 edges", full.count(1), 20);
        due("join(6, 5) of a full one", full.join(6, 5), FULL);
        due("join(0, 1) of a full one: THERE goes first", full.join(0, 1), THERE);
        due("join(5, 5) of a full one: BAD goes first", full.join(5, 5), BAD);
        due("join(7, 0) of a full one: BAD goes first", full.join(7, 0), BAD);
        due("part(0, 1)", full.part(0, 1), 19);
        due("join(6, 5) when there is room", full.join(6, 5), 20);
        due("join(0, 1) of a full one", full.join(0, 1), FULL);
    }

    private static void promise4Part() {
        BagTrees x = Graphs.ring(4);
        due("part(3, 0)", x.part(3, 0), 3);
        due("part(3, 0) again", x.part(3, 0), NONE);
        due("part(0, 2)", x.part(0, 2), NONE);
        due("part(2, 2)", x.part(2, 2), NONE);
        due("part(1, 0)", x.part(1, 0), 2);
        due("near(0)", x.near(0), 0);
        due("near(1)", x.near(1), 4);
        for (int v : EXTREMES) {
            due("part(" + v + ", 0)", x.part(v, 0), BAD);
            due("part(0, " + v + ")", x.part(0, v), BAD);
        }
        due("part(4, 4)", x.part(4, 4), BAD);
        due("count(1)", x.count(1), 2);
    }

    private static void promise5Weigh() {
        BagTrees x = Graphs.apart(2);
        due("weigh(0, 0)", x.weigh(0, 0), 1);
        due("weigh(0, 1000)", x.weigh(0, 1000), 0);
        due("weigh(0, 1001)", x.weigh(0, 1001), BAD);
        due("weigh(0, -1)", x.weigh(0, -1), BAD);
        due("weigh(0, 7)", x.weigh(0, 7), 1000);
        due("weigh(1, 3)", x.weigh(1, 3), 1);
        for (int v : EXTREMES) {
            due("weigh(" + v + ", 1)", x.weigh(v, 1), BAD);
        }
        due("weigh(2, 1)", x.weigh(2, 1), BAD);
        due("best(0)", x.best(0), 10);
    }

    private static void countsAre(String name, BagTrees x, int... counts) {
        for (int what = 0; what < counts.length; what++) {
            due(name + " count(" + what + ")", x.count(what), counts[what]);
        }
    }

    private static void promise6Count() {
        countsAre("none", Graphs.apart(0), 0, 0, 0, 0, 0, 0, NONE);
        countsAre("one", Graphs.apart(1), 1, 0, 1, 0, 0, 0, NONE);
        countsAre("ten apart", Graphs.apart(10), 10, 0, 10, 0, 0, 0, NONE);
        countsAre("path", Graphs.path(5), 5, 4, 1, 2, 1, 0, NONE);
        countsAre("three-ring", Graphs.ring(3), 3, 3, 1, 2, 2, 0, NONE);
        countsAre("four-ring", Graphs.ring(4), 4, 4, 1, 2, 2, 1, 4);
        countsAre("ten-ring", Graphs.ring(10), 10, 10, 1, 2, 2, 1, 10);
        countsAre("seven but an edge", Graphs.complete(7), 7, 20, 1, 6, 5, 0, NONE);
        countsAre("star", Graphs.star(10), 10, 9, 1, 9, 1, 0, NONE);
        BagTrees two = Graphs.apart(8);
        for (int v = 0; v < 4; v++) {
            two.join(v, (v + 1) % 4);
            two.join(4 + v, 4 + (v + 1) % 4);
        }
        countsAre("two four-rings", two, 8, 8, 2, 2, 2, 2, 4);
        BagTrees chord = Graphs.ring(6);
        chord.join(0, 2);
        countsAre("six-ring with a chord", chord, 6, 7, 1, 3, 2, 1, 5);
        for (int what : EXTREMES) {
            due("count(" + what + ")", chord.count(what), BAD);
        }
        due("count(7)", chord.count(7), BAD);
    }

    private static void promise7Near() {
        BagTrees x = Graphs.star(10);
        due("near(0)", x.near(0), 1022);
        due("near(9)", x.near(9), 1);
        due("near(10)", x.near(10), BAD);
        for (int v : EXTREMES) {
            due("near(" + v + ")", x.near(v), BAD);
        }
    }

    private static void widthsAre(String name, BagTrees x, int... widths) {
        for (int kind = 0; kind < KINDS; kind++) {
            due(name + " width(" + kind + ")", x.width(kind), widths[kind]);
        }
    }

    private static void promise8Width() {
        widthsAre("none", Graphs.apart(0), 0, 0, 0, 0, 0, 0);
        widthsAre("one", Graphs.apart(1), 0, 0, 0, 0, 0, 1);
        widthsAre("ten apart", Graphs.apart(10), 0, 0, 0, 0, 0, 1);
        widthsAre("pair", Graphs.path(2), 1, 1, 1, 1, 0, 2);
        widthsAre("path of 7", Graphs.path(7), 1, 1, 1, 1, 0, 3);
        widthsAre("path of 8", Graphs.path(8), 1, 1, 1, 1, 0, 4);
        widthsAre("ring of 8", Graphs.ring(8), 2, 2, 2, 2, 5, 4);
        widthsAre("star of 10", Graphs.star(10), 1, 1, 5, 5, 0, 2);
        widthsAre("all of 5", Graphs.complete(5), 4, 4, 4, 6, 0, 5);
        BagTrees x = Graphs.path(4);
        widthsAre("before a change", x, 1, 1, 1, 1, 0, 3);
        x.join(3, 0);
        widthsAre("after join", x, 2, 2, 2, 2, 1, 3);
        x.part(1, 2);
        x.part(3, 0);
        widthsAre("after part", x, 1, 1, 1, 1, 0, 2);
        for (int kind : EXTREMES) {
            due("width(" + kind + ")", x.width(kind), BAD);
        }
        due("width(6)", x.width(6), BAD);
    }

    private static void promise9Order() {
        for (int kind = 0; kind < KINDS; kind++) {
            orderIs("none", Graphs.apart(0), kind);
            orderIs("one", Graphs.apart(1), kind, 0);
            orderIs("ten apart", Graphs.apart(10), kind, 0, 1, 2, 3, 4, 5, 6, 7, 8, 9);
            orderIs("all of 4", Graphs.complete(4), kind, 0, 1, 2, 3);
        }
        // the middle of a star: for a tree it may come when one leaf is left, for a band in the middle
        orderIs("star", Graphs.star(5), 0, 1, 2, 3, 0, 4);
        orderIs("star", Graphs.star(5), 1, 0, 1, 2, 3, 4);
        orderIs("star", Graphs.star(5), 2, 1, 2, 0, 3, 4);
        orderIs("star", Graphs.star(5), 3, 1, 2, 0, 3, 4);
        orderIs("star", Graphs.star(5), 4, 1, 2, 3, 0, 4);
        orderIs("star", Graphs.star(5), 5, 1, 2, 3, 4, 0);
        BagTrees x = Graphs.path(3);
        orderIs("path", x, 5, 0, 2, 1);
        for (int kind : EXTREMES) {
            due("order(" + kind + ", 0)", x.order(kind, 0), BAD);
            due("order(" + kind + ", -1): BAD goes first", x.order(kind, -1), BAD);
            due("order(0, " + kind + ")", x.order(0, kind), NONE);
        }
        due("order(6, 0)", x.order(6, 0), BAD);
        x.join(0, 2);
        orderIs("after join", x, 5, 0, 1, 2);
        x.begin(2);
        orderIs("after begin", x, 5, 0, 1);
    }

    private static void promise10Seen() {
        BagTrees x = Graphs.star(5);
        due("leaf seen(0, 1)", x.seen(0, 1), 1);
        due("middle seen(0, 0)", x.seen(0, 0), 16);
        due("last seen(0, 4)", x.seen(0, 4), 0);
        due("middle first seen(1, 0)", x.seen(1, 0), 30);
        due("leaf behind it seen(1, 1)", x.seen(1, 1), 28);
        due("leaf past the middle seen(2, 3)", x.seen(2, 3), 16);
        due("leaf seen(5, 4)", x.seen(5, 4), 1);
        BagTrees r = Graphs.ring(5);
        due("ring seen(4, 0)", r.seen(4, 0), 18);
        due("ring seen(4, 1)", r.seen(4, 1), 20);
        due("ring seen(4, 2)", r.seen(4, 2), 24);
        due("ring seen(4, 3)", r.seen(4, 3), 16);
        due("ring seen(4, 4)", r.seen(4, 4), 0);
        for (int wrong : EXTREMES) {
            due("seen(" + wrong + ", 0)", r.seen(wrong, 0), BAD);
            due("seen(0, " + wrong + ")", r.seen(0, wrong), BAD);
        }
        due("seen(6, 0)", r.seen(6, 0), BAD);
        due("seen(0, 5)", r.seen(0, 5), BAD);
        due("seen without vertices", Graphs.apart(0).seen(0, 0), BAD);
    }

    private static void separatorsAre(String name, BagTrees x, int... sets) {
        for (int k = 0; k < sets.length; k++) {
            due(name + " separator(" + k + ")", x.separator(k), sets[k]);
        }
        due(name + " separator past the end", x.separator(sets.length), NONE);
    }

    private static void promise11Separator() {
        separatorsAre("none", Graphs.apart(0));
        separatorsAre("one", Graphs.apart(1));
        separatorsAre("two apart", Graphs.apart(2), 0);
        separatorsAre("ten apart", Graphs.apart(10), 0);
        separatorsAre("path", Graphs.path(5), 2, 4, 8);
        separatorsAre("four-ring", Graphs.ring(4), 5, 10);
        separatorsAre("all of 5", Graphs.complete(5));
        separatorsAre("star", Graphs.star(10), 1);
        BagTrees x = Graphs.path(3);
        x.begin(4);
        x.join(0, 1);
        x.join(1, 2);
        separatorsAre("path and one apart", x, 0, 2);
        due("separator(-1)", x.separator(-1), NONE);
        due("separator(least)", x.separator(Integer.MIN_VALUE), NONE);
        due("separator(greatest)", x.separator(Integer.MAX_VALUE), NONE);
    }

    private static void cliquesAre(String name, BagTrees x, int... sets) {
        for (int k = 0; k < sets.length; k++) {
            due(name + " clique(" + k + ")", x.clique(k), sets[k]);
        }
        due(name + " clique past the end", x.clique(sets.length), NONE);
    }

    private static void promise12Clique() {
        cliquesAre("none", Graphs.apart(0));
        cliquesAre("one", Graphs.apart(1), 1);
        cliquesAre("ten apart", Graphs.apart(10), 1, 2, 4, 8, 16, 32, 64, 128, 256, 512);
        cliquesAre("path", Graphs.path(4), 3, 6, 12);
        cliquesAre("all of 6", Graphs.complete(6), 63);
        cliquesAre("seven but an edge", Graphs.complete(7), 63, 95);
        BagTrees x = Graphs.ring(4);
        x.join(0, 2);
        cliquesAre("four-ring with a chord", x, 7, 13);
        due("clique(-1)", x.clique(-1), NONE);
        due("clique(least)", x.clique(Integer.MIN_VALUE), NONE);
        due("clique(greatest)", x.clique(Integer.MAX_VALUE), NONE);
    }

    private static void totalsAre(String name, BagTrees x, int q, long... totals) {
        for (int what = 0; what < 14; what++) {
            due(name + " total(" + what + ", " + q + ")", x.total(what, q), totals[what]);
        }
    }

    private static void promise13Total() {
        totalsAre("one", Graphs.apart(1), 10, 2, 10, 1, 0, 1, 0, 1, 1, 1, 1, 1, 0, 1, 1);
        totalsAre("three-ring", Graphs.ring(3), 3, 4, 6, 4, 0, 7, 1, 3, 3, 7, 4, 6, 4, 7, 2);
        totalsAre("four-ring", Graphs.ring(4), 2, 7, 2, 7, 2, 11, 1, 4, 4, 15, 5, 14, 7, 13, 2);
        BagTrees x = Graphs.complete(5);
        totalsAre("all of 5", x, 5, 6, 120, 26, 0, 31, 12, 60, 125, 291, 728, 120, 768, 31, 64);
        due("q 0", x.total(1, 0), 0);
        due("q 10", x.total(1, 10), 30240);
        due("q -1", x.total(1, -1), BAD);
        due("q 11", x.total(1, 11), BAD);
        for (int wrong : EXTREMES) {
            if (wrong != 11) {
                due("total(" + wrong + ", 0)", x.total(wrong, 0), BAD);
            }
            due("total(1, " + wrong + ")", x.total(1, wrong), BAD);
            due("total(0, " + wrong + "): q is not looked at", x.total(0, wrong), 6);
        }
        due("total(14, 0)", x.total(14, 0), BAD);
    }

    private static void promise13TotalWithoutVertices() {
        BagTrees none = Graphs.apart(0);
        totalsAre("none", none, 0, 1, 1, 1, 1, 1, 0, 0, 0, 1, 0, 1, 1, 0, 1);
        due("a wrong q without vertices", none.total(1, 11), BAD);
    }

    private static void promise13TotalOfAPair() {
        totalsAre("pair", Graphs.path(2), 3, 3, 6, 2, 1, 3, 0, 1, 1, 2, 1, 2, 1, 3, 1);
        totalsAre("pair apart", Graphs.apart(2), 3, 4, 9, 1, 0, 1, 0, 0, 0, 1, 0, 1, 0, 2, 1);
    }

    private static void promise13TotalOfTenApart() {
        totalsAre("ten apart", Graphs.apart(10), 10, 1024, 10000000000L, 1, 0, 1, 0, 0, 0, 1, 0, 1, 0, 10, 1);
        totalsAre("ten-ring", Graphs.ring(10), 10,
                123, 3486784410L, 123, 2, 443, 1, 10, 10, 1023, 11, 1022, 123, 91, 2);
    }

    private static void bestsAre(String name, BagTrees x, int... bests) {
        for (int what = 0; what < 5; what++) {
            due(name + " best(" + what + ")", x.best(what), bests[what]);
        }
    }

    private static BagTrees weighedPath() {
        BagTrees x = Graphs.path(4);
        x.weigh(0, 4);
        x.weigh(1, 1000);
        x.weigh(2, 0);
        x.weigh(3, 7);
        return x;
    }

    private static void promise14Best() {
        bestsAre("none", Graphs.apart(0), 0, 0, 0, NONE, 0);
        bestsAre("one", Graphs.apart(1), 1, 1, 0, 1, 0);
        bestsAre("ten apart", Graphs.apart(10), 10, 10, 0, 1, 9);
        bestsAre("star", Graphs.star(10), 9, 1, 1, 2, 9);
        bestsAre("weighed path", weighedPath(), 1007, 4, 11 - 7, 1004, 1011);
        BagTrees x = weighedPath();
        for (int what : EXTREMES) {
            due("best(" + what + ")", x.best(what), BAD);
        }
        due("best(5)", x.best(5), BAD);
    }

    private static void whichAre(String name, BagTrees x, int... sets) {
        for (int what = 0; what < 5; what++) {
            due(name + " which(" + what + ")", x.which(what), sets[what]);
        }
    }

    private static void promise15Which() {
        whichAre("none", Graphs.apart(0), 0, 0, 0, NONE, 0);
        whichAre("one", Graphs.apart(1), 1, 1, 0, 1, 0);
        whichAre("ten apart", Graphs.apart(10), 1023, 1023, 0, 1, 511);
        whichAre("star", Graphs.star(10), 1022, 1, 1, 3, 511);
        whichAre("four-ring: the least number counts", Graphs.ring(4), 5, 3, 5, 3, 7);
        BagTrees light = Graphs.ring(4);
        for (int v = 0; v < 4; v++) {
            light.weigh(v, 0);
        }
        whichAre("no weight at all", light, 0, 3, 5, 3, 0);
        BagTrees x = light;
        for (int what : EXTREMES) {
            due("which(" + what + ")", x.which(what), BAD);
        }
        due("which(5)", x.which(5), BAD);
        BagTrees weighed = weighedPath();
        whichAre("weighed path", weighed, 10, 5, 5, 3, 11);
        due("weigh(1, 0)", weighed.weigh(1, 0), 1000);
        whichAre("another weight", weighed, 9, 6, 6, 12, 9);
    }

    private static void promise16Fewest() {
        BagTrees x = Graphs.ring(6);
        due("fewest(0)", x.fewest(0), 0);
        due("fewest(1)", x.fewest(1), 0);
        due("fewest(3)", x.fewest(3), 1);
        due("fewest(9)", x.fewest(9), 3);
        due("fewest(21)", x.fewest(21), 4);
        due("fewest(63)", x.fewest(63), 5);
        due("fewest(64)", x.fewest(64), BAD);
        due("fewest(-1)", x.fewest(-1), BAD);
        due("fewest(least)", x.fewest(Integer.MIN_VALUE), BAD);
        due("fewest(greatest)", x.fewest(Integer.MAX_VALUE), BAD);
        BagTrees s = Graphs.star(10);
        due("leaves of a star", s.fewest(1022), 9);
        due("two leaves", s.fewest(6), 2);
        due("fewest(1023)", s.fewest(1023), 9);
        due("fewest(1024)", s.fewest(1024), BAD);
        BagTrees apart = Graphs.apart(3);
        due("apart", apart.fewest(6), NONE);
        due("alone", apart.fewest(4), 0);
        due("none", Graphs.apart(0).fewest(0), 0);
    }

    private static void refusalsChangeNothing() {
        BagTrees x = Graphs.ring(5);
        x.join(9, 0);
        x.join(0, 1);
        x.part(0, 2);
        x.weigh(0, 1001);
        x.begin(11);
        due("count(0)", x.count(0), 5);
        due("count(1)", x.count(1), 5);
        due("near(0)", x.near(0), 18);
        due("weigh(0, 1)", x.weigh(0, 1), 1);
    }
}
