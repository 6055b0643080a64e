import java.util.ArrayList;
import java.util.HashMap;
import java.util.LinkedHashSet;
import java.util.List;
import java.util.Map;
import java.util.Random;
import java.util.Set;

/** Long runs of calls, each answer against a slow and plain model of the document. */
public final class ModelTest {
    private static final int OBJECTS = 1500;
    private static final int CALLS = 512;
    private static int wrong = 0;

    public static void main(String[] args) {
        long seen = 0;
        for (int seed = 0; seed < OBJECTS && wrong < 20; seed++) {
            seen |= compare(seed);
        }
        for (int answer = 1; answer <= 5; answer++) {
            if ((seen >>> answer & 1) == 0) {
                wrong++;
                System.out.println("no call answered -" + answer + ": the runs are too tame");
            }
        }
        System.out.println(wrong == 0 ? "all answers are as due" : wrong + " answers are not as due");
        if (wrong != 0) {
            System.exit(1);
        }
    }

    /** Plays one object; tells which refusals were seen, a bit each. */
    private static long compare(int seed) {
        Random random = new Random(seed);
        PathSteps real = new PathSteps();
        Model model = new Model();
        // Few NODES make many meetings, all of them make the limits.
        int nodes = new int[] {3, 6, 12, 32}[random.nextInt(4)];
        int predicates = new int[] {2, 4, 16}[random.nextInt(3)];
        int tripleShare = 10 + random.nextInt(40);
        long seen = 0;
        for (int call = 0; call < CALLS; call++) {
            int[] c = nextCall(random, nodes, predicates, tripleShare, model);
            long want = answer(model, c);
            long got = answer(real, c);
            if (want != got) {
                wrong++;
                System.out.println("object " + seed + ", call " + call + ": " + names[c[0]] + "(" + c[1] + ", " + c[2]
                    + ", " + c[3] + ") answered " + got + ", due is " + want);
                return seen;
            }
            if (want < 0 && want >= -5) {
                seen |= 1L << -want;
            }
        }
        return seen;
    }

    private static final String[] names = {
        "triple", "path", "from", "run", "at", "plain", "steps", "cycle", "depth", "inverse", "negated"
    };

    private static int[] nextCall(Random r, int nodes, int predicates, int tripleShare, Model model) {
        if (r.nextInt(100) < tripleShare) {
            return new int[] {0, off(r, r.nextInt(nodes)), off(r, r.nextInt(predicates)), off(r, r.nextInt(nodes))};
        }
        int known = Math.max(1, model.paths.size());
        int rows = model.rows == null ? 1 : model.rows.size() + 1;
        switch (r.nextInt(20)) {
            case 0:
            case 1: {
                int kind = r.nextInt(7);
                int a = kind == 0 ? r.nextInt(predicates) : 1 + r.nextInt(known);
                return new int[] {1, off(r, kind), off(r, a), off(r, 1 + r.nextInt(known))};
            }
            case 2:
                return new int[] {2, off(r, r.nextInt(nodes)), 0, 0};
            case 3:
            case 4:
            case 5:
                return new int[] {3, off(r, 1 + r.nextInt(known)), end(r, nodes), end(r, nodes)};
            case 6:
            case 7:
                return new int[] {5, off(r, 1 + r.nextInt(known)), end(r, nodes), end(r, nodes)};
            case 8:
                return new int[] {6, off(r, r.nextInt(3) == 0 ? 1024 : 1 + r.nextInt(nodes * nodes)), 0, 0};
            case 9:
                return new int[] {9, off(r, 1 + r.nextInt(known)), 0, 0};
            case 10:
                return new int[] {10, off(r, r.nextInt(predicates)), off(r, r.nextInt(predicates + 1) - 1), 0};
            case 11:
            case 12:
            case 13:
                return new int[] {7, off(r, r.nextInt(rows)), 0, 0};
            case 14:
            case 15:
            case 16:
                return new int[] {8, off(r, r.nextInt(rows)), 0, 0};
            default:
                return new int[] {4, off(r, r.nextInt(rows)), off(r, r.nextInt(2)), 0};
        }
    }

    /** Now and then another number, from near the edges and from far outside. */
    private static int off(Random r, int n) {
        if (r.nextInt(40) != 0) {
            return n;
        }
        int[] others = {-2, -1, 0, 1, 2, 15, 16, 31, 32, 40, 41, 1024, 1025, Integer.MIN_VALUE, Integer.MAX_VALUE};
        return others[r.nextInt(others.length)];
    }

    private static int end(Random r, int nodes) {
        int n = r.nextInt(3) == 0 ? r.nextInt(nodes) : r.nextInt(12) == 0 ? r.nextInt(32) : -1;
        return off(r, n);
    }

    private static final long THROWN = 777777777777L;

    private static long answer(PathSteps x, int[] c) {
        switch (c[0]) {
            case 0: return x.triple(c[1], c[2], c[3]);
            case 1: return x.path(c[1], c[2], c[3]);
            case 2: return x.from(c[1]);
            case 3: return x.run(c[1], c[2], c[3]);
            case 4: return x.at(c[1], c[2]);
            case 5: return x.plain(c[1], c[2], c[3]);
            case 6: return x.steps(c[1]);
            case 7: return x.cycle(c[1]) ? 1 : 0;
            case 8:
                try {
                    return x.depth(c[1]);
                } catch (ArrayIndexOutOfBoundsException e) {
                    return THROWN;
                }
            case 9: return x.inverse(c[1]);
            default: return x.negated(c[1], c[2]);
        }
    }

    private static long answer(Model m, int[] c) {
        switch (c[0]) {
            case 0: return m.triple(c[1], c[2], c[3]);
            case 1: return m.path(c[1], c[2], c[3]);
            case 2: return within(c[1], 0, 31) ? m.triples.stream().filter(t -> t.get(0) == c[1]).count() : -2;
            case 3: return m.run(c[1], c[2], c[3]);
            case 4:
                if (!within(c[2], 0, 1)) {
                    return -2;
                }
                return m.rows == null ? -3 : m.hasRow(c[1]) ? m.rows.get(c[1])[c[2]] : -1;
            case 5: return m.plain(c[1], c[2], c[3]);
            case 6: return m.steps(c[1]);
            case 7: return m.hasRow(c[1]) && m.rows.get(c[1])[0] == m.rows.get(c[1])[1] ? 1 : 0;
            case 8: return m.hasRow(c[1]) ? m.rows.get(c[1])[2] : THROWN;
            case 9: return m.path(1, c[1], 0);
            default: return m.negated(c[1], c[2]);
        }
    }

    private static boolean within(int n, int low, int high) {
        return low <= n && n <= high;
    }

    private static final class Model {
        final Set<List<Integer>> triples = new LinkedHashSet<>();
        final List<int[]> paths = new ArrayList<>();
        List<int[]> rows = null;
        int most = 1024;

        boolean isPath(int n) {
            return within(n, 1, paths.size());
        }

        boolean hasRow(int i) {
            return rows != null && within(i, 0, rows.size() - 1);
        }

        long triple(int s, int p, int o) {
            if (!within(s, 0, 31) || !within(p, 0, 15) || !within(o, 0, 31)) {
                return -2;
            }
            List<Integer> t = List.of(s, p, o);
            if (!triples.contains(t) && triples.size() == 150) {
                return -4;
            }
            triples.add(t);
            return triples.size();
        }

        long path(int kind, int a, int b) {
            if (within(kind, 1, 6) && (!isPath(a) || ((kind == 2 || kind == 3) && !isPath(b)))) {
                return -1;
            }
            if (!within(kind, 0, 6) || (kind == 0 && !within(a, 0, 15))) {
                return -2;
            }
            return keep(kind, a, b);
        }

        long negated(int p, int other) {
            return within(p, 0, 15) && within(other, -1, 15) ? keep(7, p, other) : -2;
        }

        long keep(int kind, int a, int b) {
            if (paths.size() == 40) {
                return -4;
            }
            paths.add(new int[] {kind, a, b});
            return paths.size();
        }

        long steps(int m) {
            if (!within(m, 1, 1024)) {
                return -2;
            }
            most = m;
            return 1;
        }

        long plain(int path, int s, int o) {
            if (!isPath(path)) {
                return -1;
            }
            if (!within(s, -1, 31) || !within(o, -1, 31)) {
                return -2;
            }
            long[][] t = new Count(s, o).of(path);
            long sum = 0;
            for (int x = 0; x < 32; x++) {
                for (int y = 0; y < 32; y++) {
                    sum += (s == -1 || s == x) && (o == -1 || o == y) ? t[x][y] : 0;
                }
            }
            return sum;
        }

        long run(int path, int s, int o) {
            long size = plain(path, s, o);
            if (size < 0) {
                return size;
            }
            Count count = new Count(s, o);
            long[][] t = count.of(path);
            if (count.beyond) {
                return -5;
            }
            if (size > 2000) {
                return -4;
            }
            rows = new ArrayList<>();
            for (int x = 0; x < 32; x++) {
                for (int y = 0; y < 32; y++) {
                    if ((s == -1 || s == x) && (o == -1 || o == y) && t[x][y] > 0) {
                        int[] row = {x, y, count.depth(path, x, y)};
                        for (long k = 0; k < t[x][y]; k++) {
                            rows.add(row);
                        }
                    }
                }
            }
            return size;
        }

        /** The PATHS in the GRAPH of one run. */
        final class Count {
            final boolean[] graph = new boolean[32];
            final Map<Integer, long[][]> known = new HashMap<>();
            boolean beyond = false;

            Count(int s, int o) {
                for (List<Integer> t : triples) {
                    graph[t.get(0)] = true;
                    graph[t.get(2)] = true;
                }
                if (s >= 0) {
                    graph[s] = true;
                }
                if (o >= 0) {
                    graph[o] = true;
                }
            }

            long[][] of(int path) {
                long[][] t = known.get(path);
                if (t == null) {
                    t = count(paths.get(path - 1));
                    known.put(path, t);
                }
                return t;
            }

            long[][] count(int[] path) {
                int kind = path[0];
                long[][] t = new long[32][32];
                if (kind == 0 || kind == 7) {
                    for (List<Integer> l : triples) {
                        boolean named = l.get(1) == path[1] || (kind == 7 && l.get(1) == path[2]);
                        t[l.get(0)][l.get(2)] += named == (kind == 0) ? 1 : 0;
                    }
                    return t;
                }
                long[][] a = of(path[1]);
                long[][] b = kind == 2 || kind == 3 ? of(path[2]) : a;
                long pairs = 0;
                for (int x = 0; x < 32; x++) {
                    boolean[] come = kind == 4 || kind == 5 ? comeTo(a, x) : null;
                    for (int y = 0; y < 32; y++) {
                        boolean self = x == y && graph[x];
                        switch (kind) {
                            case 1: t[x][y] = a[y][x]; break;
                            case 2: t[x][y] = Math.min(1000000, sum(a, b, x, y)); break;
                            case 3: t[x][y] = Math.min(1000000, a[x][y] + b[x][y]); break;
                            case 4: t[x][y] = self || come[y] ? 1 : 0; break;
                            case 5: t[x][y] = come[y] ? 1 : 0; break;
                            default: t[x][y] = self || a[x][y] > 0 ? 1 : 0;
                        }
                        pairs += t[x][y];
                    }
                }
                beyond |= (kind == 4 || kind == 5) && pairs > most;
                return t;
            }

            long sum(long[][] a, long[][] b, int x, int y) {
                long sum = 0;
                for (int z = 0; z < 32; z++) {
                    sum += a[x][z] * b[z][y];
                }
                return sum;
            }

            boolean[] comeTo(long[][] a, int x) {
                boolean[] come = new boolean[32];
                List<Integer> open = new ArrayList<>();
                open.add(x);
                while (!open.isEmpty()) {
                    int z = open.remove(open.size() - 1);
                    for (int y = 0; y < 32; y++) {
                        if (a[z][y] > 0 && !come[y]) {
                            come[y] = true;
                            open.add(y);
                        }
                    }
                }
                return come;
            }

            int depth(int path, int x, int y) {
                int kind = paths.get(path - 1)[0];
                if ((kind == 4 || kind == 6) && x == y) {
                    return 0;
                }
                if (kind != 4 && kind != 5) {
                    return 1;
                }
                long[][] a = of(paths.get(path - 1)[1]);
                boolean[] here = new boolean[32];
                here[x] = true;
                for (int steps = 1; ; steps++) {
                    boolean[] next = new boolean[32];
                    for (int z = 0; z < 32; z++) {
                        for (int w = 0; w < 32; w++) {
                            next[w] |= here[z] && a[z][w] > 0;
                        }
                    }
                    if (next[y]) {
                        return steps;
                    }
                    here = next;
                }
            }
        }
    }
}
