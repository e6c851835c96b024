/**
 * Small graphs taken apart: least orders of their vertices and what is seen along them,
 * separators, cliques, holes, exact counts, best sets and fewest joining edges.
 */
public final class BagTrees {
    public static final int NONE = -1, BAD = -2, FULL = -3, THERE = -4;

    private static final int MOST_VERTICES = 10;
    private static final int MOST_EDGES = 20;
    private static final int MOST_WEIGHT = 1000;
    private static final int MOST_COLOURS = 10;
    private static final int SETS = 1 << MOST_VERTICES;
    private static final int KINDS = 6;
    private static final int BESTS = 5;
    private static final int TOTALS = 14;
    /** Above every cost, height and number of edges. */
    private static final int MORE_THAN_ANY = 1000;

    private final Graph graph;
    private final Orders orders;
    private final Finder finder;
    private final Counter counter;

    public BagTrees() {
        graph = new Graph();
        orders = new Orders(graph);
        finder = new Finder(graph);
        counter = new Counter(graph);
    }

    public int begin(int n) {
        if (n < 0 || n > MOST_VERTICES) {
            return BAD;
        }
        int before = graph.vertices;
        graph.startOver(n);
        return before;
    }

    public int join(int a, int b) {
        if (!graph.has(a) || !graph.has(b) || a == b) {
            return BAD;
        }
        if (graph.areLinked(a, b)) {
            return THERE;
        }
        if (graph.edges >= MOST_EDGES) {
            return FULL;
        }
        graph.link(a, b);
        return graph.edges;
    }

    public int part(int a, int b) {
        if (!graph.has(a) || !graph.has(b)) {
            return BAD;
        }
        if (!graph.areLinked(a, b)) {
            return NONE;
        }
        graph.unlink(a, b);
        return graph.edges;
    }

    public int weigh(int v, int weight) {
        if (!graph.has(v) || weight < 0 || weight > MOST_WEIGHT) {
            return BAD;
        }
        int before = graph.weights[v];
        graph.weights[v] = weight;
        return before;
    }

    public int count(int what) {
        switch (what) {
            case 0:
                return graph.vertices;
            case 1:
                return graph.edges;
            case 2:
                return graph.pieces();
            case 3:
                return finder.mostLinks();
            case 4:
                return finder.densestCore();
            case 5:
                return finder.holes();
            case 6:
                return finder.shortestHole();
            default:
                return BAD;
        }
    }

    public int near(int v) {
        return graph.has(v) ? graph.linked[v] : BAD;
    }

    public int width(int kind) {
        if (!isKind(kind)) {
            return BAD;
        }
        orders.settle(kind);
        return orders.costs[kind];
    }

    public int order(int kind, int k) {
        if (!isKind(kind)) {
            return BAD;
        }
        if (k < 0 || k >= graph.vertices) {
            return NONE;
        }
        orders.settle(kind);
        return orders.rows[kind][k];
    }

    public int seen(int kind, int v) {
        if (!isKind(kind) || !graph.has(v)) {
            return BAD;
        }
        orders.settle(kind);
        return orders.seenFrom(kind, v);
    }

    public int separator(int k) {
        return finder.separatorAt(k);
    }

    public int clique(int k) {
        return finder.cliqueAt(k);
    }

    public long total(int what, int q) {
        if (what < 0 || what >= TOTALS) {
            return BAD;
        }
        if (what == Counter.COLOURINGS && (q < 0 || q > MOST_COLOURS)) {
            return BAD;
        }
        return counter.tell(what, q);
    }

    public int best(int what) {
        if (what < 0 || what >= BESTS) {
            return BAD;
        }
        int set = finder.bestSet(what);
        return set == NONE ? NONE : graph.weightOf(set);
    }

    public int which(int what) {
        return what < 0 || what >= BESTS ? BAD : finder.bestSet(what);
    }

    public int fewest(int set) {
        return set < 0 || set > graph.all() ? BAD : finder.fewestJoining(set);
    }

    private static boolean isKind(int kind) {
        return kind >= 0 && kind < KINDS;
    }

    /** Of a set that is not empty. */
    private static int lowest(int set) {
        return Integer.bitCount((set & -set) - 1);
    }

    /** The graph, with rows over all its sets that are made anew only when one is asked for after a change. */
    private static final class Graph {
        final int[] linked = new int[MOST_VERTICES];
        final int[] weights = new int[MOST_VERTICES];
        /** By set: all that some vertex of it is linked to. */
        final int[] reach = new int[SETS];
        /** By set: how many edges have both ends in it. */
        final int[] inside = new int[SETS];
        /** By set: the part of it that its lowest vertex is in. */
        final int[] piece = new int[SETS];
        int vertices;
        int edges;
        int changes;
        private int changesAtRows = -1;

        int all() {
            return (1 << vertices) - 1;
        }

        boolean has(int v) {
            return v >= 0 && v < vertices;
        }

        void startOver(int n) {
            vertices = n;
            edges = 0;
            changes++;
            for (int v = 0; v < MOST_VERTICES; v++) {
                linked[v] = 0;
                weights[v] = 1;
            }
        }

        boolean areLinked(int a, int b) {
            return (linked[a] >> b & 1) != 0;
        }

        void link(int a, int b) {
            linked[a] |= 1 << b;
            linked[b] |= 1 << a;
            edges++;
            changes++;
        }

        void unlink(int a, int b) {
            linked[a] &= ~(1 << b);
            linked[b] &= ~(1 << a);
            edges--;
            changes++;
        }

        int weightOf(int set) {
            int sum = 0;
            for (int v = 0; v < vertices; v++) {
                sum += (set >> v & 1) * weights[v];
            }
            return sum;
        }

        void makeRows() {
            if (changesAtRows == changes) {
                return;
            }
            changesAtRows = changes;
            int all = all();
            for (int set = 1; set <= all; set++) {
                int rest = set & (set - 1);
                int near = linked[lowest(set)];
                reach[set] = reach[rest] | near;
                inside[set] = inside[rest] + Integer.bitCount(near & rest);
                piece[set] = spread(reach, set);
            }
        }

        /** The part of a set that its lowest vertex is in, by a row of what each smaller set reaches. */
        static int spread(int[] reached, int set) {
            int held = set & -set;
            for (int round = 0; round < MOST_VERTICES; round++) {
                int grown = held | reached[held] & set;
                if (grown == held) {
                    break;
                }
                held = grown;
            }
            return held;
        }

        int pieces() {
            makeRows();
            int found = 0;
            for (int left = all(); left != 0; left = left & (left - 1) & ~piece[left]) {
                found++;
            }
            return found;
        }

        boolean hangsTogether(int set) {
            return piece[set] == set;
        }

        /** Those ahead from which a way through others ahead leads to v. */
        int touched(int ahead, int v) {
            int touched = 0;
            for (int left = ahead; left != 0; left = left & (left - 1) & ~piece[left]) {
                if ((reach[piece[left]] >> v & 1) != 0) {
                    touched |= piece[left];
                }
            }
            return touched;
        }

        int seesPast(int ahead, int v) {
            return (linked[v] | reach[touched(ahead, v)]) & ~ahead & ~(1 << v);
        }
    }

    /** Least orders, one row for each kind, kept until the graph changes. */
    private static final class Orders {
        private static final int TREE = 0, ROW = 1, BAND = 2, CUT = 3, FILL = 4, HEIGHT = 5;

        private final Graph graph;
        private final Heights heights;
        final int[][] rows = new int[KINDS][MOST_VERTICES];
        final int[] costs = new int[KINDS];
        /** By set ahead: the least cost of what comes behind it (for BAND a bound below it). */
        private final int[] least = new int[SETS];
        private int settled;
        private int changesAtSettled = -1;

        Orders(Graph graph) {
            this.graph = graph;
            this.heights = new Heights(graph);
        }

        /** What v sees by a kind that is settled. */
        int seenFrom(int kind, int v) {
            int ahead = 0;
            for (int k = 0; k < graph.vertices && rows[kind][k] != v; k++) {
                ahead |= 1 << rows[kind][k];
            }
            return graph.seesPast(ahead, v);
        }

        /** Lays the least order of a kind, unless it has been laid since the last change. */
        void settle(int kind) {
            graph.makeRows();
            if (changesAtSettled != graph.changes) {
                changesAtSettled = graph.changes;
                settled = 0;
            }
            if ((settled >> kind & 1) != 0) {
                return;
            }
            settled |= 1 << kind;
            if (kind == HEIGHT) {
                costs[kind] = heights.layLeast(rows[kind]);
                return;
            }
            fillLeast(kind);
            costs[kind] = kind == BAND ? layBand(rows[kind]) : layLeast(kind, rows[kind]);
        }

        private void fillLeast(int kind) {
            int all = graph.all();
            least[all] = 0;
            for (int ahead = all - 1; ahead >= 0; ahead--) {
                int found = MORE_THAN_ANY;
                for (int v = 0; v < graph.vertices; v++) {
                    if ((ahead >> v & 1) == 0) {
                        found = Math.min(found, costFrom(kind, ahead, v));
                    }
                }
                least[ahead] = found;
            }
        }

        /** The least cost of v and all behind it, v being the first behind those ahead. */
        private int costFrom(int kind, int ahead, int v) {
            int own = ownCost(kind, ahead, v);
            int later = least[ahead | 1 << v];
            return kind == FILL ? own + later : Math.max(own, later);
        }

        private int ownCost(int kind, int ahead, int v) {
            int with = ahead | 1 << v;
            int behind = graph.all() & ~with;
            switch (kind) {
                case TREE:
                    return Integer.bitCount(graph.seesPast(ahead, v));
                case ROW:
                    return Integer.bitCount(with & graph.reach[behind]);
                case BAND:
                    // Ends of edges on either side of a cut must all find room within the band.
                    return Math.max(Integer.bitCount(with & graph.reach[behind]),
                            Integer.bitCount(behind & graph.reach[with]));
                case CUT:
                    return graph.edges - graph.inside[with] - graph.inside[behind];
                default:
                    return Integer.bitCount(graph.seesPast(ahead, v) & ~graph.linked[v]);
            }
        }

        private int layLeast(int kind, int[] row) {
            int ahead = 0;
            int left = least[0];
            for (int k = 0; k < graph.vertices; k++) {
                int v = 0;
                while (v < graph.vertices - 1
                        && ((ahead >> v & 1) != 0 || costFrom(kind, ahead, v) > left)) {
                    v++;
                }
                if (kind == FILL) {
                    left -= ownCost(kind, ahead, v);
                }
                row[k] = v;
                ahead |= 1 << v;
            }
            return least[0];
        }

        private int layBand(int[] row) {
            int apart = least[0];
            while (apart < graph.vertices && !layBandBehind(row, 0, 0, apart)) {
                apart++;
            }
            return apart;
        }

        /** Tries vertices by rising number at place k, so that the first full row is the least one. */
        private boolean layBandBehind(int[] row, int k, int ahead, int apart) {
            if (k >= graph.vertices || k >= MOST_VERTICES) {
                return true;
            }
            for (int v = 0; v < graph.vertices; v++) {
                if ((ahead >> v & 1) != 0 || costFrom(BAND, ahead, v) > apart) {
                    continue;
                }
                row[k] = v;
                int with = ahead | 1 << v;
                if (hasRoom(row, k, with, apart) && layBandBehind(row, k + 1, with, apart)) {
                    return true;
                }
            }
            return false;
        }

        /** Whether all that is still to come near enough to the vertices up to place k has places enough there. */
        private boolean hasRoom(int[] row, int k, int ahead, int apart) {
            int due = 0;
            for (int i = 0; i <= k; i++) {
                due |= graph.linked[row[i]] & ~ahead;
                if (Integer.bitCount(due) > Math.max(0, i + apart - k)) {
                    return false;
                }
            }
            return true;
        }
    }

    /** Least orders by the height of the tree of parents. */
    private static final class Heights {
        private final Graph graph;
        private final int[] sees = new int[MOST_VERTICES];
        /** By vertex ahead: how many are in the longest row of parents that ends with it. */
        private final int[] height = new int[MOST_VERTICES];
        /** By vertex behind: the greatest height among those ahead that it touches. */
        private final int[] below = new int[MOST_VERTICES];
        /** By set of vertices behind: all that they see past those ahead. */
        private final int[] reach = new int[SETS];
        /** By set of vertices behind: the least height of the trees that they end, with all ahead that they touch. */
        private final int[] least = new int[SETS];

        Heights(Graph graph) {
            this.graph = graph;
        }

        int layLeast(int[] row) {
            int goal = leastBehind(0);
            int ahead = 0;
            for (int k = 0; k < graph.vertices; k++) {
                int v = 0;
                while (v < graph.vertices - 1 && !staysWithin(ahead, v, goal)) {
                    v++;
                }
                height[v] = 1 + tallest(graph.touched(ahead, v));
                row[k] = v;
                ahead |= 1 << v;
            }
            return goal;
        }

        private boolean staysWithin(int ahead, int v, int goal) {
            if ((ahead >> v & 1) != 0) {
                return false;
            }
            height[v] = 1 + tallest(graph.touched(ahead, v));
            return height[v] <= goal && leastBehind(ahead | 1 << v) <= goal;
        }

        private int tallest(int set) {
            int found = 0;
            for (int v = 0; v < graph.vertices; v++) {
                if ((set >> v & 1) != 0) {
                    found = Math.max(found, height[v]);
                }
            }
            return found;
        }

        private int leastBehind(int ahead) {
            int behind = graph.all() & ~ahead;
            for (int v = 0; v < graph.vertices; v++) {
                if ((behind >> v & 1) != 0) {
                    sees[v] = graph.seesPast(ahead, v);
                    below[v] = tallest(graph.touched(ahead, v));
                }
            }
            int sets = 1 << Integer.bitCount(behind);
            int set = 0;
            for (int i = 1; i < sets; i++) {
                set = (set - behind) & behind;
                reach[set] = reach[set & (set - 1)] | sees[lowest(set)];
                int piece = Graph.spread(reach, set);
                least[set] = piece == set ? 1 + leastBelow(set) : Math.max(least[piece], least[set & ~piece]);
            }
            return least[behind];
        }

        /** Of a set that hangs together: the least height below the one of it that comes last. */
        private int leastBelow(int set) {
            int found = MORE_THAN_ANY;
            for (int v = 0; v < graph.vertices; v++) {
                if ((set >> v & 1) != 0) {
                    found = Math.min(found, Math.max(below[v], least[set & ~(1 << v)]));
                }
            }
            return found;
        }
    }

    /** Goes through all sets by rising number: holes, separators, cliques, best sets. */
    private static final class Finder {
        private static final int APART = 0, COVERING = 1, TOUCHING = 2, CLIQUE = 3;

        private final Graph graph;

        Finder(Graph graph) {
            this.graph = graph;
        }

        int mostLinks() {
            int most = 0;
            for (int v = 0; v < graph.vertices; v++) {
                most = Math.max(most, Integer.bitCount(graph.linked[v]));
            }
            return most;
        }

        /** Takes away a vertex with the fewest links left, again and again: the most links that one had then. */
        int densestCore() {
            int left = graph.all();
            int most = 0;
            for (int taken = 0; taken < graph.vertices; taken++) {
                int v = loosest(left);
                most = Math.max(most, Integer.bitCount(graph.linked[v] & left));
                left &= ~(1 << v);
            }
            return most;
        }

        private int loosest(int set) {
            int found = 0;
            int fewest = MORE_THAN_ANY;
            for (int v = 0; v < graph.vertices; v++) {
                int links = Integer.bitCount(graph.linked[v] & set);
                if ((set >> v & 1) != 0 && links < fewest) {
                    fewest = links;
                    found = v;
                }
            }
            return found;
        }

        int holes() {
            graph.makeRows();
            int found = 0;
            int all = graph.all();
            for (int set = 0; set <= all; set++) {
                if (isHole(set)) {
                    found++;
                }
            }
            return found;
        }

        int shortestHole() {
            graph.makeRows();
            int fewest = NONE;
            int all = graph.all();
            for (int set = 0; set <= all; set++) {
                if (isHole(set) && (fewest == NONE || Integer.bitCount(set) < fewest)) {
                    fewest = Integer.bitCount(set);
                }
            }
            return fewest;
        }

        private boolean isHole(int set) {
            int size = Integer.bitCount(set);
            if (size < 4 || graph.inside[set] != size || !graph.hangsTogether(set)) {
                return false;
            }
            for (int v = 0; v < graph.vertices; v++) {
                if ((set >> v & 1) != 0 && Integer.bitCount(graph.linked[v] & set) != 2) {
                    return false;
                }
            }
            return true;
        }

        int separatorAt(int k) {
            graph.makeRows();
            int found = 0;
            int all = graph.all();
            for (int set = 0; set <= all; set++) {
                if (isSeparator(set)) {
                    if (found == k) {
                        return set;
                    }
                    found++;
                }
            }
            return NONE;
        }

        private boolean isSeparator(int set) {
            int whole = 0;
            for (int left = graph.all() & ~set; left != 0; left = left & (left - 1) & ~graph.piece[left]) {
                if ((graph.reach[graph.piece[left]] & set) == set) {
                    whole++;
                }
            }
            return whole >= 2;
        }

        int cliqueAt(int k) {
            int found = 0;
            int all = graph.all();
            for (int set = 1; set <= all; set++) {
                if (isClique(set)) {
                    if (found == k) {
                        return set;
                    }
                    found++;
                }
            }
            return NONE;
        }

        /** What is linked to, or is, each of a clique is just the clique: no pair is missing and no other can come. */
        private boolean isClique(int set) {
            int common = graph.all();
            for (int v = 0; v < graph.vertices; v++) {
                if ((set >> v & 1) != 0) {
                    common &= graph.linked[v] | 1 << v;
                }
            }
            return set != 0 && common == set;
        }

        int bestSet(int what) {
            graph.makeRows();
            boolean lightest = what == COVERING || what == TOUCHING;
            int chosen = NONE;
            int weight = 0;
            int all = graph.all();
            for (int set = 0; set <= all; set++) {
                if (!isSuch(what, set)) {
                    continue;
                }
                int own = graph.weightOf(set);
                if (chosen == NONE || (lightest ? own < weight : own > weight)) {
                    chosen = set;
                    weight = own;
                }
            }
            return chosen;
        }

        private boolean isSuch(int what, int set) {
            int left = graph.all() & ~set;
            switch (what) {
                case APART:
                    return graph.inside[set] == 0;
                case COVERING:
                    return (left & ~graph.reach[set]) == 0;
                case TOUCHING:
                    return graph.inside[left] == 0;
                case CLIQUE:
                    return isClique(set);
                default:
                    return graph.hangsTogether(left) && (left != 0 || graph.vertices == 0);
            }
        }

        /** A tree has one edge less than vertices, and the fewest edges make a tree. */
        int fewestJoining(int set) {
            if (set == 0) {
                return 0;
            }
            graph.makeRows();
            int fewest = NONE;
            int all = graph.all();
            for (int more = set; more <= all; more = (more + 1) | set) {
                int edges = Integer.bitCount(more) - 1;
                if (graph.hangsTogether(more) && (fewest == NONE || edges < fewest)) {
                    fewest = edges;
                }
            }
            return fewest;
        }
    }

    /** The totals, by rows over all sets. */
    private static final class Counter {
        static final int APART = 0, COLOURINGS = 1, MATCHINGS = 2, FULL_MATCHINGS = 3, COVERING = 4, RINGS = 5,
                WAYS = 6, TREES = 7, FORESTS = 8, JOINING = 9, DIRECTIONS = 10, EDGE_COVERS = 11, TOGETHER = 12;
        private static final int OTHERS = MOST_VERTICES - 1;

        private final Graph graph;
        private long[] row = new long[SETS];
        private long[] spare = new long[SETS];
        /** By set of the vertices but the last one, and by its end: ways from the last one through the set. */
        private final long[] arms = new long[OTHERS << OTHERS];

        Counter(Graph graph) {
            this.graph = graph;
        }

        long tell(int what, int q) {
            graph.makeRows();
            switch (what) {
                case APART:
                    return setsApart();
                case COLOURINGS:
                    return colourings(q);
                case MATCHINGS:
                    return matchings(false);
                case FULL_MATCHINGS:
                    return matchings(true);
                case COVERING:
                    return coveringSets();
                case RINGS:
                    return rings();
                case WAYS:
                    return waysThrough();
                case TREES:
                    return trees();
                case FORESTS:
                    return forests();
                case JOINING:
                    return joiningEdgeSets();
                case DIRECTIONS:
                    // Stanley: but for the sign as many as there are colourings with -1 colours.
                    return Math.abs(colourings(-1));
                case EDGE_COVERS:
                    return edgeCovers();
                case TOGETHER:
                    return setsTogether();
                default:
                    return evenEdgeSets();
            }
        }

        private long setsApart() {
            int all = graph.all();
            long found = 0;
            for (int set = 0; set <= all; set++) {
                found += graph.inside[set] == 0 ? 1 : 0;
            }
            return found;
        }

        private long coveringSets() {
            int all = graph.all();
            long found = 0;
            for (int set = 0; set <= all; set++) {
                found += (set | graph.reach[set]) == all ? 1 : 0;
            }
            return found;
        }

        private long setsTogether() {
            int all = graph.all();
            long found = 0;
            for (int set = 1; set <= all; set++) {
                found += graph.hangsTogether(set) ? 1 : 0;
            }
            return found;
        }

        /** Colours one whole class after the other, each time that of the lowest vertex left. */
        private long colourings(int q) {
            clearRows();
            row[graph.all()] = 1;
            long found = row[0];
            for (int used = 0; used < graph.vertices; used++) {
                colourOneClass(q - used);
                found += row[0];
            }
            return found;
        }

        private void clearRows() {
            int all = graph.all();
            for (int set = 0; set <= all; set++) {
                row[set] = 0;
                spare[set] = 0;
            }
        }

        private void colourOneClass(int choices) {
            int all = graph.all();
            row[0] = 0;
            for (int set = 1; set <= all; set++) {
                if (row[set] != 0) {
                    takeClasses(set, row[set] * choices);
                    row[set] = 0;
                }
            }
            long[] cleared = row;
            row = spare;
            spare = cleared;
        }

        private void takeClasses(int set, long ways) {
            int rest = set & (set - 1);
            int free = rest & ~graph.linked[lowest(set)];
            for (int with = free; with >= 0; with = with == 0 ? -1 : (with - 1) & free) {
                if (graph.inside[with] == 0) {
                    spare[rest & ~with] += ways;
                }
            }
        }

        private long matchings(boolean full) {
            int all = graph.all();
            row[0] = 1;
            for (int set = 1; set <= all; set++) {
                int rest = set & (set - 1);
                long found = full ? 0 : row[rest];
                for (int ends = graph.linked[lowest(set)] & rest; ends != 0; ends &= ends - 1) {
                    found += row[rest & ~(ends & -ends)];
                }
                row[set] = found;
            }
            return row[all];
        }

        /** A ring is an arm through all others that comes back, gone along in two directions. */
        private long rings() {
            if (graph.vertices < 3) {
                return 0;
            }
            fillArms();
            int last = graph.vertices - 1;
            int others = graph.all() & ~(1 << last);
            return armsTo(others, graph.linked[last]) / 2;
        }

        /** A way is two arms of the last vertex that share out the others, told once for each of the two. */
        private long waysThrough() {
            if (graph.vertices < 2) {
                return graph.vertices;
            }
            fillArms();
            int others = graph.all() >> 1;
            row[0] = 1;
            for (int set = 1; set <= others; set++) {
                row[set] = armsTo(set, others);
            }
            long found = 0;
            for (int set = 0; set <= others; set++) {
                found += row[set] * row[others & ~set];
            }
            return found / 2;
        }

        private void fillArms() {
            int last = graph.vertices - 1;
            int others = graph.all() >> 1;
            for (int set = 1; set <= others; set++) {
                for (int v = 0; v < last; v++) {
                    int before = set & ~(1 << v);
                    long found = 0;
                    if (before == 0) {
                        found = graph.linked[last] >> v & 1;
                    } else if (before != set) {
                        found = armsTo(before, graph.linked[v]);
                    }
                    arms[set * OTHERS + v] = found;
                }
            }
        }

        /** How many arms go through a set to an end that is among these. */
        private long armsTo(int set, int ends) {
            long found = 0;
            for (int left = set & ends; left != 0; left &= left - 1) {
                found += arms[set * OTHERS + lowest(left)];
            }
            return found;
        }

        private long trees() {
            int all = graph.all();
            row[0] = 0;
            for (int set = 1; set <= all; set++) {
                row[set] = graph.hangsTogether(set) ? treesOn(set) : 0;
            }
            return row[all];
        }

        /** Breaks off the limb of the lowest vertex that has the second lowest one. */
        private long treesOn(int set) {
            int rest = set & (set - 1);
            if (rest == 0) {
                return 1;
            }
            int links = graph.linked[lowest(set)];
            int second = rest & -rest;
            int free = rest & ~second;
            long found = 0;
            for (int with = free; with >= 0; with = with == 0 ? -1 : (with - 1) & free) {
                int limb = second | with;
                if (row[limb] != 0) {
                    found += Integer.bitCount(links & limb) * row[limb] * row[set & ~limb];
                }
            }
            return found;
        }

        private long forests() {
            trees();
            int all = graph.all();
            spare[0] = 1;
            for (int set = 1; set <= all; set++) {
                int rest = set & (set - 1);
                long found = 0;
                for (int left = rest; left >= 0; left = left == 0 ? -1 : (left - 1) & rest) {
                    found += row[set & ~left] * spare[left];
                }
                spare[set] = found;
            }
            return spare[all];
        }

        /** All sets of edges but those by which the lowest vertex hangs together with only some. */
        private long joiningEdgeSets() {
            int all = graph.all();
            row[0] = 0;
            for (int set = 1; set <= all; set++) {
                int rest = set & (set - 1);
                long found = 1L << graph.inside[set];
                for (int left = rest; left != 0; left = (left - 1) & rest) {
                    found -= row[set & ~left] << graph.inside[left];
                }
                row[set] = found;
            }
            return row[all];
        }

        /** Takes away and adds back the sets of edges that leave out some vertices at least. */
        private long edgeCovers() {
            int all = graph.all();
            long found = 0;
            for (int set = 0; set <= all; set++) {
                long edgeSets = 1L << graph.inside[set];
                found += (Integer.bitCount(all & ~set) & 1) == 0 ? edgeSets : -edgeSets;
            }
            return found;
        }

        /** Each edge beside those of a forest closes a ring of its own, and these may be joined freely. */
        private long evenEdgeSets() {
            return 1L << (graph.edges - graph.vertices + graph.pieces());
        }
    }
}
