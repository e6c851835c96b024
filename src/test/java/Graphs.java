/** Graphs that the tests ask about, and all that can be asked of one. */
final class Graphs {
    private Graphs() {
    }

    static BagTrees apart(int n) {
        BagTrees x = new BagTrees();
        x.begin(n);
        return x;
    }

    static BagTrees path(int n) {
        BagTrees x = apart(n);
        for (int v = 1; v < n; v++) {
            x.join(v - 1, v);
        }
        return x;
    }

    static BagTrees ring(int n) {
        BagTrees x = path(n);
        x.join(n - 1, 0);
        return x;
    }

    static BagTrees star(int n) {
        BagTrees x = apart(n);
        for (int v = 1; v < n; v++) {
            x.join(0, v);
        }
        return x;
    }

    /** With 7 vertices the last edge, between 5 and 6, is one too many. */
    static BagTrees complete(int n) {
        BagTrees x = apart(n);
        for (int a = 0; a < n; a++) {
            for (int b = 0; b < a; b++) {
                x.join(a, b);
            }
        }
        return x;
    }

    /** 10 vertices and 20 edges: each vertex of a ring is joined to the next one and to the one after it. */
    static BagTrees squaredRing() {
        BagTrees x = apart(10);
        for (int v = 0; v < 10; v++) {
            x.join(v, (v + 1) % 10);
            x.join(v, (v + 2) % 10);
        }
        return x;
    }

    /** Three rows of three. */
    static BagTrees grid() {
        BagTrees x = apart(9);
        for (int v = 0; v < 6; v++) {
            x.join(v, v + 3);
        }
        for (int v = 0; v < 9; v += 3) {
            x.join(v, v + 1);
            x.join(v + 1, v + 2);
        }
        return x;
    }

    /** With edges between the first and the second of ends, the third and the fourth, and so on. */
    static BagTrees joined(int n, int... ends) {
        BagTrees x = apart(n);
        for (int i = 0; i + 1 < ends.length; i += 2) {
            x.join(ends[i], ends[i + 1]);
        }
        return x;
    }

    static BagTrees weighed(BagTrees x, int... weights) {
        for (int v = 0; v < weights.length; v++) {
            x.weigh(v, weights[v]);
        }
        return x;
    }

    /** All answers about an object's state, by some 200 calls that leave it as it was. */
    static long[] state(BagTrees x) {
        int n = Math.max(0, Math.min(10, x.count(0)));
        long[] answers = new long[200];
        int at = 0;
        for (int what = 0; what < 7; what++) {
            answers[at++] = x.count(what);
        }
        for (int v = 0; v < n; v++) {
            int weight = x.weigh(v, 0);
            x.weigh(v, weight);
            answers[at++] = weight;
            answers[at++] = x.near(v);
        }
        for (int kind = 0; kind < 6; kind++) {
            answers[at++] = x.width(kind);
            for (int k = 0; k < n; k++) {
                answers[at++] = x.order(kind, k);
                answers[at++] = x.seen(kind, k);
            }
        }
        for (int k = 0; k < 5; k++) {
            answers[at++] = x.separator(k);
            answers[at++] = x.clique(k);
            answers[at++] = x.best(k);
            answers[at++] = x.which(k);
        }
        for (int what = 0; what < 14; what++) {
            answers[at++] = x.total(what, 3);
        }
        answers[at] = x.fewest((1 << n) - 1);
        return answers;
    }
}
