/**
 * Paths over triples: links, inverse ones, one behind another, either one, none or one, none or
 * more, one or more, and all links but some: which nodes they join, and how often.
 */
public final class PathSteps {
    private static final int NODES = 32;
    private static final int PREDICATES = 16;
    private static final int ALL_PREDICATES = (1 << PREDICATES) - 1;
    private static final int MOST_TRIPLES = 150;
    private static final int MOST_PATHS = 40;
    private static final int MOST_TIMES = 1000000;
    private static final int MOST_ROWS = 2000;
    private static final int MOST_PAIRS = 1024;
    private static final int NOT_TOLD = -1;

    private static final int LINK = 0;
    private static final int INVERSE = 1;
    private static final int BEHIND = 2;
    private static final int EITHER = 3;
    private static final int NONE_OR_MORE = 4;
    private static final int ONE_OR_MORE = 5;
    private static final int NONE_OR_ONE = 6;
    private static final int NEGATED = 7;

    private static final int UNKNOWN = -1;
    private static final int OUTSIDE = -2;
    private static final int NOT_NOW = -3;
    private static final int NO_ROOM = -4;
    private static final int BEYOND = -5;

    private final Triples triples;
    private final Path[] paths;
    private final Rows rows;
    private final int[] levels;
    private int pathCount;
    private int most;

    public PathSteps() {
        triples = new Triples();
        paths = new Path[MOST_PATHS + 1];
        rows = new Rows();
        levels = new int[NODES];
        pathCount = 0;
        most = MOST_PAIRS;
    }

    public int triple(int s, int p, int o) {
        if (!isNode(s) || !isPredicate(p) || !isNode(o)) {
            return OUTSIDE;
        }
        // One that is there already needs no room, so it is looked for before the room is.
        if (!triples.has(s, p, o)) {
            if (triples.size >= MOST_TRIPLES) {
                return NO_ROOM;
            }
            triples.add(s, p, o);
        }
        return triples.size;
    }

    public int path(int kind, int a, int b) {
        switch (kind) {
            case LINK:
                return isPredicate(a) ? keepPath(LINK, 1 << a, null, null) : OUTSIDE;
            case BEHIND:
            case EITHER:
                return keepOverTwo(kind, known(a), known(b));
            case INVERSE:
            case NONE_OR_MORE:
            case ONE_OR_MORE:
            case NONE_OR_ONE:
                return keepOverOne(kind, known(a));
            default:
                return OUTSIDE;
        }
    }

    public int from(int node) {
        return isNode(node) ? triples.countFrom(node) : OUTSIDE;
    }

    public int run(int path, int s, int o) {
        Path asked = known(path);
        if (asked == null) {
            return UNKNOWN;
        }
        if (!isEnd(s) || !isEnd(o)) {
            return OUTSIDE;
        }
        countParts(asked, s, o);
        if (goesBeyond(asked)) {
            return BEYOND;
        }
        int size = asked.countBetween(s, o);
        if (size > MOST_ROWS) {
            return NO_ROOM;
        }
        keepRows(asked, s, o);
        return size;
    }

    public int at(int i, int side) {
        if (side != 0 && side != 1) {
            return OUTSIDE;
        }
        if (!rows.wereRun) {
            return NOT_NOW;
        }
        if (!rows.has(i)) {
            return UNKNOWN;
        }
        return side == 0 ? rows.firsts[i] : rows.seconds[i];
    }

    public int plain(int path, int s, int o) {
        Path asked = known(path);
        if (asked == null) {
            return UNKNOWN;
        }
        if (!isEnd(s) || !isEnd(o)) {
            return OUTSIDE;
        }
        countParts(asked, s, o);
        return asked.countBetween(s, o);
    }

    public int steps(int most) {
        if (most < 1 || most > MOST_PAIRS) {
            return OUTSIDE;
        }
        this.most = most;
        return 1;
    }

    public boolean cycle(int i) {
        return rows.has(i) && rows.firsts[i] == rows.seconds[i];
    }

    public int depth(int i) throws ArrayIndexOutOfBoundsException {
        if (!rows.has(i)) {
            throw new ArrayIndexOutOfBoundsException("no such row");
        }
        return rows.depths[i];
    }

    public int inverse(int path) {
        return keepOverOne(INVERSE, known(path));
    }

    public int negated(int p, int other) {
        if (!isPredicate(p) || (other != NOT_TOLD && !isPredicate(other))) {
            return OUTSIDE;
        }
        int without = 1 << p;
        if (other != NOT_TOLD) {
            without |= 1 << other;
        }
        return keepPath(NEGATED, ALL_PREDICATES & ~without, null, null);
    }

    private static boolean isNode(int n) {
        return n >= 0 && n < NODES;
    }

    private static boolean isPredicate(int p) {
        return p >= 0 && p < PREDICATES;
    }

    private static boolean isEnd(int n) {
        return n == NOT_TOLD || isNode(n);
    }

    private static int lowest(int end) {
        return end == NOT_TOLD ? 0 : end;
    }

    private static int highest(int end) {
        return end == NOT_TOLD ? NODES - 1 : end;
    }

    /** A set of one NODE, or of none if the end is not told. */
    private static int bitOf(int end) {
        return end == NOT_TOLD ? 0 : 1 << end;
    }

    private static boolean holds(int set, int member) {
        return (set >>> member & 1) != 0;
    }

    /** The PATH of a number, or null if there is none. */
    private Path known(int number) {
        return number >= 1 && number <= pathCount ? paths[number] : null;
    }

    private int keepOverOne(int kind, Path inner) {
        return inner == null ? UNKNOWN : keepPath(kind, 0, inner, null);
    }

    private int keepOverTwo(int kind, Path inner, Path other) {
        return inner == null || other == null ? UNKNOWN : keepPath(kind, 0, inner, other);
    }

    private int keepPath(int kind, int links, Path inner, Path other) {
        if (pathCount >= MOST_PATHS) {
            return NO_ROOM;
        }
        pathCount++;
        paths[pathCount] = new Path(pathCount, kind, links, inner, other);
        return pathCount;
    }

    /** Counts the PATH and all that it is made of; a part is always an earlier one. */
    private void countParts(Path asked, int s, int o) {
        int graph = triples.nodes | bitOf(s) | bitOf(o);
        for (int n = 1; n <= asked.number; n++) {
            Path part = known(n);
            if (part != null && asked.isMadeOf(n)) {
                part.countIn(triples, graph);
            }
        }
    }

    private boolean goesBeyond(Path asked) {
        for (int n = 1; n <= asked.number; n++) {
            Path part = known(n);
            if (part != null && asked.isMadeOf(n) && part.walks() && part.pairs() > most) {
                return true;
            }
        }
        return false;
    }

    // The depths are kept with the rows: TRIPLES that come later are not of that run.
    private void keepRows(Path asked, int s, int o) {
        rows.begin();
        for (int x = lowest(s); x <= highest(s); x++) {
            if (asked.joined[x] != 0) {
                asked.measure(x, levels);
                for (int y = lowest(o); y <= highest(o); y++) {
                    rows.add(x, y, levels[y], asked.timesOf(x, y));
                }
            }
        }
    }

    /** The TRIPLES: for each pair of NODES the set of PREDICATES that join it. */
    private static final class Triples {
        final int[] links;
        int nodes;
        int size;

        Triples() {
            links = new int[NODES * NODES];
            nodes = 0;
            size = 0;
        }

        boolean has(int s, int p, int o) {
            return holds(links[s * NODES + o], p);
        }

        void add(int s, int p, int o) {
            links[s * NODES + o] |= 1 << p;
            nodes |= 1 << s | 1 << o;
            size++;
        }

        int countFrom(int s) {
            int count = 0;
            for (int o = 0; o < NODES; o++) {
                count += Integer.bitCount(links[s * NODES + o]);
            }
            return count;
        }
    }

    /** A PATH, and how often it joins each pair in the GRAPH in which it was counted last. */
    private static final class Path {
        final int number;
        final int kind;
        /** The PREDICATES that count, for KINDS 0 and 7. */
        final int links;
        final Path inner;
        final Path other;
        /** The numbers of all PATHS of which it is made, its own too. */
        final long parts;
        final int[] times;
        /** For each x the set of all y that it is joined to: what times says, for quick steps. */
        final int[] joined;
        int countedSize;
        int countedGraph;

        Path(int number, int kind, int links, Path inner, Path other) {
            this.number = number;
            this.kind = kind;
            this.links = links;
            this.inner = inner;
            this.other = other;
            long made = 1L << number;
            if (inner != null) {
                made |= inner.parts;
            }
            if (other != null) {
                made |= other.parts;
            }
            parts = made;
            times = new int[NODES * NODES];
            joined = new int[NODES];
            countedSize = -1;
            countedGraph = 0;
        }

        boolean isMadeOf(int n) {
            return (parts >>> n & 1L) != 0;
        }

        /** Whether it goes one step behind another, so that MOST bounds it. */
        boolean walks() {
            return kind == NONE_OR_MORE || kind == ONE_OR_MORE;
        }

        int timesOf(int x, int y) {
            return times[x * NODES + y];
        }

        int pairs() {
            int count = 0;
            for (int x = 0; x < NODES; x++) {
                count += Integer.bitCount(joined[x]);
            }
            return count;
        }

        /** At most 1024 pairs of at most a million TIMES each, so an int holds it. */
        int countBetween(int s, int o) {
            int count = 0;
            for (int x = lowest(s); x <= highest(s); x++) {
                for (int y = lowest(o); y <= highest(o); y++) {
                    count += timesOf(x, y);
                }
            }
            return count;
        }

        // TRIPLES are only ever added, so their number tells whether they are the same ones:
        // then a long chain of PATHS need not be counted again.
        void countIn(Triples triples, int graph) {
            if (countedSize == triples.size && countedGraph == graph) {
                return;
            }
            countedSize = triples.size;
            countedGraph = graph;
            forget();
            if (inner == null) {
                countLinks(triples);
            } else if (other == null) {
                countOverOne(inner, graph);
            } else {
                countOverTwo(inner, other);
            }
        }

        private void forget() {
            for (int x = 0; x < NODES; x++) {
                joined[x] = 0;
            }
            for (int i = 0; i < NODES * NODES; i++) {
                times[i] = 0;
            }
        }

        private void addTimes(int x, int y, long more) {
            if (more > 0) {
                int i = x * NODES + y;
                long sum = times[i] + more;
                times[i] = sum > MOST_TIMES ? MOST_TIMES : (int) sum;
                joined[x] |= 1 << y;
            }
        }

        private void countLinks(Triples triples) {
            for (int x = 0; x < NODES; x++) {
                for (int y = 0; y < NODES; y++) {
                    addTimes(x, y, Integer.bitCount(triples.links[x * NODES + y] & links));
                }
            }
        }

        private void countOverOne(Path step, int graph) {
            if (kind == INVERSE) {
                countTurned(step);
            } else {
                joinByStep(step, graph);
                countJoinedOnce();
            }
        }

        private void countOverTwo(Path left, Path right) {
            if (kind == EITHER) {
                countAll(left);
                countAll(right);
            } else {
                countBehind(left, right);
            }
        }

        private void countTurned(Path step) {
            for (int x = 0; x < NODES; x++) {
                for (int y = 0; y < NODES; y++) {
                    addTimes(y, x, step.timesOf(x, y));
                }
            }
        }

        private void countAll(Path side) {
            for (int x = 0; x < NODES; x++) {
                for (int y = 0; y < NODES; y++) {
                    addTimes(x, y, side.timesOf(x, y));
                }
            }
        }

        private void countBehind(Path left, Path right) {
            for (int x = 0; x < NODES; x++) {
                for (int z = 0; z < NODES; z++) {
                    long before = left.timesOf(x, z);
                    if (before != 0 && right.joined[z] != 0) {
                        addBehind(x, before, right, z);
                    }
                }
            }
        }

        private void addBehind(int x, long before, Path right, int z) {
            for (int y = 0; y < NODES; y++) {
                addTimes(x, y, before * right.timesOf(z, y));
            }
        }

        private void joinByStep(Path step, int graph) {
            for (int x = 0; x < NODES; x++) {
                joined[x] = step.joined[x];
            }
            if (walks()) {
                joinOnwards();
            }
            if (kind != ONE_OR_MORE) {
                joinSelves(graph);
            }
        }

        /** Warshall's way: after z, all ways whose inner NODES are at most z are joined. */
        private void joinOnwards() {
            for (int z = 0; z < NODES; z++) {
                for (int x = 0; x < NODES; x++) {
                    if (holds(joined[x], z)) {
                        joined[x] |= joined[z];
                    }
                }
            }
        }

        private void joinSelves(int graph) {
            for (int x = 0; x < NODES; x++) {
                joined[x] |= graph & 1 << x;
            }
        }

        private void countJoinedOnce() {
            for (int x = 0; x < NODES; x++) {
                for (int y = 0; y < NODES; y++) {
                    times[x * NODES + y] = joined[x] >>> y & 1;
                }
            }
        }

        /** Tells for each y that x is joined to how many inner PATHS, at least, lead there. */
        void measure(int x, int[] levels) {
            for (int y = 0; y < NODES; y++) {
                levels[y] = 1;
            }
            if (inner != null && walks()) {
                measureWalk(inner, x, levels);
            }
            if (kind == NONE_OR_MORE || kind == NONE_OR_ONE) {
                levels[x] = 0;
            }
        }

        private static void measureWalk(Path step, int x, int[] levels) {
            int seen = 0;
            int edge = step.joined[x];
            for (int level = 1; level <= NODES && edge != 0; level++) {
                int next = 0;
                for (int y = 0; y < NODES; y++) {
                    if (holds(edge, y)) {
                        levels[y] = level;
                        next |= step.joined[y];
                    }
                }
                seen |= edge;
                edge = next & ~seen;
            }
        }
    }

    /** The ROWS of the last run. */
    private static final class Rows {
        final int[] firsts;
        final int[] seconds;
        final int[] depths;
        int size;
        boolean wereRun;

        Rows() {
            firsts = new int[MOST_ROWS];
            seconds = new int[MOST_ROWS];
            depths = new int[MOST_ROWS];
            size = 0;
            wereRun = false;
        }

        void begin() {
            size = 0;
            wereRun = true;
        }

        void add(int x, int y, int level, int times) {
            for (int k = 0; k < times && size < MOST_ROWS; k++) {
                firsts[size] = x;
                seconds[size] = y;
                depths[size] = level;
                size++;
            }
        }

        boolean has(int i) {
            return i >= 0 && i < size;
        }
    }
}
