import java.util.ArrayList;
import java.util.List;

/**
 * The document's terms taken word for word, by going through all orders, sets of vertices, sets of
 * edges and directions: slow, and with nothing in common with the tables of the class.
 */
final class Oracle {
    static final int NONE = -1, BAD = -2, FULL = -3, THERE = -4;

    int n;
    final boolean[][] joined = new boolean[10][10];
    final int[] weight = new int[10];

    // ---- the state

    int begin(int count) {
        if (count < 0 || count > 10) {
            return BAD;
        }
        int before = n;
        n = count;
        for (int v = 0; v < 10; v++) {
            weight[v] = 1;
            java.util.Arrays.fill(joined[v], false);
        }
        return before;
    }

    boolean isVertex(int v) {
        return 0 <= v && v < n;
    }

    int join(int a, int b) {
        if (!isVertex(a) || !isVertex(b) || a == b) {
            return BAD;
        }
        if (joined[a][b]) {
            return THERE;
        }
        if (edges().size() == 20) {
            return FULL;
        }
        joined[a][b] = joined[b][a] = true;
        return edges().size();
    }

    int part(int a, int b) {
        if (!isVertex(a) || !isVertex(b)) {
            return BAD;
        }
        if (!joined[a][b]) {
            return NONE;
        }
        joined[a][b] = joined[b][a] = false;
        return edges().size();
    }

    int weigh(int v, int w) {
        if (!isVertex(v) || w < 0 || w > 1000) {
            return BAD;
        }
        int before = weight[v];
        weight[v] = w;
        return before;
    }

    List<int[]> edges() {
        List<int[]> all = new ArrayList<>();
        for (int a = 0; a < n; a++) {
            for (int b = a + 1; b < n; b++) {
                if (joined[a][b]) {
                    all.add(new int[] {a, b});
                }
            }
        }
        return all;
    }

    private boolean in(int set, int v) {
        return (set & (1 << v)) != 0;
    }

    // ---- parts, holes, separators, cliques

    /** The number of its part for each vertex of a set, -1 for all others. */
    private int[] partsOf(int set) {
        int[] part = new int[n];
        java.util.Arrays.fill(part, -1);
        int parts = 0;
        for (int v = 0; v < n; v++) {
            if (in(set, v) && part[v] < 0) {
                markPart(set, v, parts++, part);
            }
        }
        return part;
    }

    private void markPart(int set, int v, int number, int[] part) {
        part[v] = number;
        for (int u = 0; u < n; u++) {
            if (in(set, u) && joined[v][u] && part[u] < 0) {
                markPart(set, u, number, part);
            }
        }
    }

    int numberOfParts(int set) {
        int most = -1;
        for (int p : partsOf(set)) {
            most = Math.max(most, p);
        }
        return most + 1;
    }

    int degreeIn(int set, int v) {
        int d = 0;
        for (int u = 0; u < n; u++) {
            d += in(set, u) && joined[v][u] ? 1 : 0;
        }
        return d;
    }

    boolean isHole(int set) {
        if (Integer.bitCount(set) < 4 || numberOfParts(set) != 1) {
            return false;
        }
        for (int v = 0; v < n; v++) {
            if (in(set, v) && degreeIn(set, v) != 2) {
                return false;
            }
        }
        return true;
    }

    int count(int what) {
        int all = (1 << n) - 1;
        int most = 0;
        int holes = 0;
        int fewest = NONE;
        switch (what) {
            case 0: return n;
            case 1: return edges().size();
            case 2: return numberOfParts(all);
            case 3:
                for (int v = 0; v < n; v++) {
                    most = Math.max(most, degreeIn(all, v));
                }
                return most;
            case 4:
                for (int set = 1; set <= all; set++) {
                    int least = 99;
                    for (int v = 0; v < n; v++) {
                        if (in(set, v)) {
                            least = Math.min(least, degreeIn(set, v));
                        }
                    }
                    most = Math.max(most, least);
                }
                return most;
            case 5: case 6:
                for (int set = 0; set <= all; set++) {
                    if (isHole(set)) {
                        holes++;
                        int size = Integer.bitCount(set);
                        fewest = fewest == NONE ? size : Math.min(fewest, size);
                    }
                }
                return what == 5 ? holes : fewest;
            default: return BAD;
        }
    }

    int near(int v) {
        if (!isVertex(v)) {
            return BAD;
        }
        int set = 0;
        for (int u = 0; u < n; u++) {
            set += joined[v][u] ? 1 << u : 0;
        }
        return set;
    }

    boolean isSeparator(int set) {
        int left = ((1 << n) - 1) & ~set;
        int[] part = partsOf(left);
        int parts = numberOfParts(left);
        int good = 0;
        for (int p = 0; p < parts; p++) {
            boolean toEach = true;
            for (int s = 0; s < n; s++) {
                if (in(set, s)) {
                    boolean found = false;
                    for (int v = 0; v < n; v++) {
                        found |= part[v] == p && joined[v][s];
                    }
                    toEach &= found;
                }
            }
            good += toEach ? 1 : 0;
        }
        return good >= 2;
    }

    boolean isJoinedThroughout(int set) {
        for (int a = 0; a < n; a++) {
            for (int b = 0; b < a; b++) {
                if (in(set, a) && in(set, b) && !joined[a][b]) {
                    return false;
                }
            }
        }
        return true;
    }

    boolean isClique(int set) {
        if (set == 0 || !isJoinedThroughout(set)) {
            return false;
        }
        for (int v = 0; v < n; v++) {
            if (!in(set, v) && isJoinedThroughout(set | 1 << v)) {
                return false;
            }
        }
        return true;
    }

    int separator(int k) {
        for (int set = 0; set < 1 << n; set++) {
            if (isSeparator(set) && k-- == 0) {
                return set;
            }
        }
        return NONE;
    }

    int clique(int k) {
        for (int set = 0; set < 1 << n; set++) {
            if (isClique(set) && k-- == 0) {
                return set;
            }
        }
        return NONE;
    }

    // ---- orders

    /** What the vertex at a place sees: those at later places that a walk through earlier places gets to. */
    int sees(int[] order, int place, int placed) {
        boolean[] ahead = new boolean[n];
        for (int i = 0; i < place; i++) {
            ahead[order[i]] = true;
        }
        boolean[] got = new boolean[n];
        walk(order[place], ahead, got);
        int set = 0;
        for (int v = 0; v < n; v++) {
            if (got[v] && !ahead[v] && v != order[place]) {
                set |= 1 << v;
            }
        }
        return set;
    }

    private void walk(int v, boolean[] ahead, boolean[] got) {
        for (int u = 0; u < n; u++) {
            if (joined[v][u] && !got[u]) {
                got[u] = true;
                if (ahead[u]) {
                    walk(u, ahead, got);
                }
            }
        }
    }

    /** The cost of an order; of its first places alone, a cost that no order that begins so goes below. */
    int cost(int kind, int[] order, int placed) {
        int cost = 0;
        int[] place = new int[n];
        java.util.Arrays.fill(place, -1);
        for (int i = 0; i < placed; i++) {
            place[order[i]] = i;
        }
        switch (kind) {
            case 0:
                for (int i = 0; i < placed; i++) {
                    cost = Math.max(cost, Integer.bitCount(sees(order, i, placed)));
                }
                return cost;
            case 1: case 3:
                for (int k = 0; k <= placed; k++) {
                    int ends = 0;
                    int cut = 0;
                    for (int i = 0; i < k; i++) {
                        int over = 0;
                        for (int u = 0; u < n; u++) {
                            over += joined[order[i]][u] && (place[u] < 0 || place[u] >= k) ? 1 : 0;
                        }
                        cut += over;
                        ends += over > 0 ? 1 : 0;
                    }
                    cost = Math.max(cost, kind == 1 ? ends : cut);
                }
                return cost;
            case 2:
                for (int[] e : edges()) {
                    int a = place[e[0]];
                    int b = place[e[1]];
                    if (a >= 0 || b >= 0) {
                        cost = Math.max(cost, Math.abs((a < 0 ? placed : a) - (b < 0 ? placed : b)));
                    }
                }
                return cost;
            case 4:
                for (int i = 0; i < placed; i++) {
                    int seen = sees(order, i, placed);
                    for (int u = 0; u < n; u++) {
                        cost += in(seen, u) && !joined[order[i]][u] ? 1 : 0;
                    }
                }
                return cost;
            default:
                return tallest(order, placed, place);
        }
    }

    private int tallest(int[] order, int placed, int[] place) {
        int most = 0;
        int[] row = new int[n];
        for (int i = 0; i < placed; i++) {
            row[i] = Math.max(row[i], 1);
            most = Math.max(most, row[i]);
            int seen = sees(order, i, placed);
            for (int j = i + 1; j < placed; j++) {
                if (in(seen, order[j])) {
                    row[j] = Math.max(row[j], row[i] + 1);
                    break;
                }
            }
        }
        return most;
    }

    private int leastCost;
    private int[] leastOrder;

    /** The first order, as orders go by their first difference, that none costs less than. */
    int[] leastOrder(int kind) {
        leastCost = Integer.MAX_VALUE;
        leastOrder = new int[0];
        extend(kind, new int[n], 0, new boolean[n]);
        return leastOrder;
    }

    private void extend(int kind, int[] order, int placed, boolean[] used) {
        int cost = cost(kind, order, placed);
        if (cost >= leastCost) {
            return;
        }
        if (placed == n) {
            leastCost = cost;
            leastOrder = order.clone();
            return;
        }
        for (int v = 0; v < n; v++) {
            if (!used[v]) {
                used[v] = true;
                order[placed] = v;
                extend(kind, order, placed + 1, used);
                used[v] = false;
            }
        }
    }

    // ---- totals

    boolean isApart(int set) {
        for (int[] e : edges()) {
            if (in(set, e[0]) && in(set, e[1])) {
                return false;
            }
        }
        return true;
    }

    boolean isCovering(int set) {
        for (int v = 0; v < n; v++) {
            if (!in(set, v) && degreeIn(set, v) == 0) {
                return false;
            }
        }
        return true;
    }

    long colourings(int q) {
        return colour(0, q, new int[n]);
    }

    /** Colours not used so far are all alike, so that one of them stands for all. */
    private long colour(int v, int q, int[] colours) {
        if (v == n) {
            return 1;
        }
        int used = 0;
        for (int u = 0; u < v; u++) {
            used = Math.max(used, colours[u]);
        }
        long found = 0;
        for (int c = 1; c <= Math.min(q, used + 1); c++) {
            boolean free = true;
            for (int u = 0; u < v; u++) {
                free &= !(joined[u][v] && colours[u] == c);
            }
            if (free) {
                colours[v] = c;
                found += (c > used ? q - used : 1) * colour(v + 1, q, colours);
            }
        }
        return found;
    }

    /** Totals 2, 3, 5 to 9, 11 and 13 at once, by going through all sets of edges. */
    long[] edgeSetTotals() {
        long[] totals = new long[14];
        int[][] edges = edges().toArray(new int[0][]);
        for (int chosen = 0; chosen < 1 << edges.length; chosen++) {
            int[] degree = new int[n];
            int[] name = new int[n];
            int parts = n;
            boolean ring = false;
            for (int v = 0; v < n; v++) {
                name[v] = v;
            }
            for (int i = 0; i < edges.length; i++) {
                if ((chosen & (1 << i)) == 0) {
                    continue;
                }
                int a = edges[i][0];
                int b = edges[i][1];
                degree[a]++;
                degree[b]++;
                int from = name[a];
                int to = name[b];
                ring |= from == to;
                parts -= from == to ? 0 : 1;
                for (int v = 0; from != to && v < n; v++) {
                    name[v] = name[v] == from ? to : name[v];
                }
            }
            tally(totals, degree, parts, ring);
        }
        return totals;
    }

    private void tally(long[] totals, int[] degree, int parts, boolean ring) {
        int least = 99;
        int most = 0;
        boolean even = true;
        for (int d : degree) {
            least = Math.min(least, d);
            most = Math.max(most, d);
            even &= d % 2 == 0;
        }
        boolean one = parts == 1;
        totals[2] += most <= 1 ? 1 : 0;
        totals[3] += most <= 1 && least >= 1 ? 1 : 0;
        totals[5] += one && n >= 3 && least == 2 && most == 2 ? 1 : 0;
        totals[6] += one && !ring && most <= 2 ? 1 : 0;
        totals[7] += one && !ring ? 1 : 0;
        totals[8] += !ring ? 1 : 0;
        totals[9] += one ? 1 : 0;
        totals[11] += least >= 1 ? 1 : 0;
        totals[13] += even ? 1 : 0;
    }

    long setTotal(int what) {
        long found = 0;
        for (int set = 0; set < 1 << n; set++) {
            boolean is = what == 0 ? isApart(set) : what == 4 ? isCovering(set) : numberOfParts(set) == 1;
            found += is ? 1 : 0;
        }
        return found;
    }

    long directions() {
        int[][] edges = edges().toArray(new int[0][]);
        long found = 0;
        for (int turned = 0; turned < 1 << edges.length; turned++) {
            int[] into = new int[n];
            for (int i = 0; i < edges.length; i++) {
                boolean turn = (turned & (1 << i)) != 0;
                into[edges[i][turn ? 0 : 1]] |= 1 << edges[i][turn ? 1 : 0];
            }
            int left = (1 << n) - 1;
            for (int round = 0; round < n; round++) {
                for (int v = 0; v < n; v++) {
                    if (in(left, v) && (into[v] & left) == 0) {
                        left &= ~(1 << v);
                    }
                }
            }
            found += left == 0 ? 1 : 0;
        }
        return found;
    }

    // ---- best sets, fewest edges

    int weightOf(int set) {
        int sum = 0;
        for (int v = 0; v < n; v++) {
            sum += in(set, v) ? weight[v] : 0;
        }
        return sum;
    }

    private boolean isSuch(int what, int set) {
        int left = ((1 << n) - 1) & ~set;
        switch (what) {
            case 0: return isApart(set);
            case 1: return isCovering(set);
            case 2:
                for (int[] e : edges()) {
                    if (!in(set, e[0]) && !in(set, e[1])) {
                        return false;
                    }
                }
                return true;
            case 3: return isClique(set);
            default: return n == 0 || left != 0 && numberOfParts(left) == 1;
        }
    }

    int which(int what) {
        if (what < 0 || what > 4) {
            return BAD;
        }
        int found = NONE;
        for (int set = (1 << n) - 1; set >= 0; set--) {
            if (isSuch(what, set)) {
                int more = found == NONE ? 0 : weightOf(set) - weightOf(found);
                if (what == 1 || what == 2 ? more <= 0 : more >= 0) {
                    found = set;
                }
            }
        }
        return found;
    }

    int best(int what) {
        int set = which(what);
        return set < 0 ? set : weightOf(set);
    }

    /** By all sets of edges: the fewest that have all vertices of a set in one part. */
    int fewest(int set) {
        if (set < 0 || set >= 1 << n) {
            return BAD;
        }
        int[][] edges = edges().toArray(new int[0][]);
        int fewest = NONE;
        for (int chosen = 0; chosen < 1 << edges.length; chosen++) {
            int size = Integer.bitCount(chosen);
            if ((fewest == NONE || size < fewest) && hangsBy(set, chosen, edges)) {
                fewest = size;
            }
        }
        return fewest;
    }

    private boolean hangsBy(int set, int chosen, int[][] edges) {
        int got = set & -set;
        for (int round = 0; round < n; round++) {
            for (int i = 0; i < edges.length; i++) {
                if ((chosen & (1 << i)) != 0 && (in(got, edges[i][0]) || in(got, edges[i][1]))) {
                    got |= 1 << edges[i][0] | 1 << edges[i][1];
                }
            }
        }
        return (got & set) == set;
    }
}
