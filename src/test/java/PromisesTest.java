/** Each promise of the document by itself: ordinary inputs, edges and wrong inputs. */
public final class PromisesTest {
    private static final int LOW = Integer.MIN_VALUE;
    private static final int HIGH = Integer.MAX_VALUE;
    private static int wrong = 0;

    public static void main(String[] args) {
        aNewObject();
        triple();
        triplesAreAtMost150();
        path();
        pathsAreAtMost40();
        from();
        runRefuses();
        runOfLinks();
        runOfInverse();
        runOfBehindAndEither();
        runOfNoneOrMore();
        runOfOneOrMore();
        runOfNoneOrOne();
        runWithEndsOutsideTheTriples();
        runGoesBeyond();
        runBeyondInAPart();
        runHasNoRoom();
        refusedRunsLeaveTheRows();
        rowsAreThoseOfTheirRun();
        at();
        plain();
        timesAreAtMostAMillion();
        steps();
        cycle();
        depth();
        depthThrows();
        inverse();
        negated();
        System.out.println(wrong == 0 ? "all answers are as due" : wrong + " answers are not as due");
        if (wrong != 0) {
            System.exit(1);
        }
    }

    private static void due(String what, long want, long got) {
        if (want != got) {
            wrong++;
            System.out.println(what + ": answered " + got + ", due is " + want);
        }
    }

    private static void due(String what, boolean want, boolean got) {
        due(what, want ? 1 : 0, got ? 1 : 0);
    }

    private static boolean depthThrowsAt(PathSteps x, int i) {
        try {
            x.depth(i);
            return false;
        } catch (RuntimeException e) {
            return e.getClass() == ArrayIndexOutOfBoundsException.class;
        }
    }

    /** All rows as "x-y:depth", in their order. */
    private static String rowsOf(PathSteps x) {
        StringBuilder all = new StringBuilder();
        for (int i = 0; x.at(i, 0) >= 0; i++) {
            all.append(i == 0 ? "" : " ").append(x.at(i, 0)).append('-').append(x.at(i, 1));
            all.append(':').append(x.depth(i));
        }
        return all.toString();
    }

    private static void dueRows(String what, PathSteps x, String want) {
        String got = rowsOf(x);
        if (!want.equals(got)) {
            wrong++;
            System.out.println(what + ": rows are " + got + ", due are " + want);
        }
    }

    /** 0 -1-> 1 -1-> 2 -1-> 0 and 1 -2-> 3, with PATH 1 the PREDICATE 1 and PATH 2 the PREDICATE 2. */
    private static PathSteps ring() {
        PathSteps x = new PathSteps();
        x.triple(0, 1, 1);
        x.triple(1, 1, 2);
        x.triple(2, 1, 0);
        x.triple(1, 2, 3);
        x.path(0, 1, 0);
        x.path(0, 2, 0);
        return x;
    }

    /** 0 -0-> 1 -0-> .. -0-> last, with PATH 1 the PREDICATE 0. */
    private static PathSteps chain(int last) {
        PathSteps x = new PathSteps();
        for (int n = 0; n < last; n++) {
            x.triple(n, 0, n + 1);
        }
        x.path(0, 0, 0);
        return x;
    }

    private static void aNewObject() {
        PathSteps x = new PathSteps();
        for (int n = 0; n < 32; n++) {
            due("1: from of a new object", 0, x.from(n));
        }
        due("1: no path", -1, x.run(1, -1, -1));
        due("1: no run", -3, x.at(0, 0));
        due("1: no run, cycle", false, x.cycle(0));
        due("1: no run, depth", true, depthThrowsAt(x, 0));
        due("1: the first triple", 1, x.triple(0, 0, 0));
        due("1: the first path", 1, x.path(0, 0, 0));

        // A ring through all NODES joins all 1024 pairs: MOST lets just these pass.
        PathSteps full = new PathSteps();
        for (int n = 0; n < 32; n++) {
            full.triple(n, 0, (n + 1) % 32);
        }
        full.path(0, 0, 0);
        full.path(5, 1, 0);
        due("1: most is 1024", 1024, full.run(2, -1, -1));
        full.steps(1023);
        due("1: most below 1024", -5, full.run(2, -1, -1));

        PathSteps other = new PathSteps();
        due("1: objects share nothing", 1, other.triple(5, 5, 5));
    }

    private static void triple() {
        PathSteps x = new PathSteps();
        due("2: first", 1, x.triple(0, 0, 0));
        due("2: the same again", 1, x.triple(0, 0, 0));
        due("2: another predicate", 2, x.triple(0, 15, 0));
        due("2: another object", 3, x.triple(0, 0, 31));
        due("2: another subject", 4, x.triple(31, 0, 0));
        due("2: turned round is another", 4, x.triple(0, 0, 31));
        int[] badNodes = {-1, 32, LOW, HIGH};
        int[] badPredicates = {-1, 16, LOW, HIGH};
        for (int bad : badNodes) {
            due("2: subject " + bad, -2, x.triple(bad, 0, 0));
            due("2: object " + bad, -2, x.triple(0, 0, bad));
        }
        for (int bad : badPredicates) {
            due("2: predicate " + bad, -2, x.triple(0, bad, 0));
        }
        due("2: refusals change nothing", 5, x.triple(1, 1, 1));
    }

    private static void triplesAreAtMost150() {
        PathSteps x = new PathSteps();
        for (int n = 0; n < 150; n++) {
            due("2: triple " + n, n + 1, x.triple(n % 32, n / 32, 7));
        }
        due("2: the 151st", -4, x.triple(31, 15, 31));
        due("2: outside comes before no room", -2, x.triple(32, 0, 0));
        due("2: one that is there, at 150", 150, x.triple(0, 0, 7));
        due("2: the 151st again", -4, x.triple(31, 15, 31));
        due("2: no room changes nothing", 4, x.from(31));
        x.path(0, 15, 0);
        due("2: no room changes no link", 0, x.run(1, -1, -1));
    }

    private static void path() {
        PathSteps x = new PathSteps();
        due("3: a before there is a path", -1, x.path(1, 1, 1));
        due("3: kind 0", 1, x.path(0, 0, 99));
        due("3: kind 0, last predicate", 2, x.path(0, 15, LOW));
        due("3: kind 1, b does not count", 3, x.path(1, 1, 99));
        due("3: kind 2", 4, x.path(2, 1, 2));
        due("3: kind 3", 5, x.path(3, 4, 1));
        due("3: kind 4, b does not count", 6, x.path(4, 1, -1));
        due("3: kind 5, b does not count", 7, x.path(5, 6, 0));
        due("3: kind 6, b does not count", 8, x.path(6, 7, HIGH));
        int[] badKinds = {-1, 7, 8, LOW, HIGH};
        for (int bad : badKinds) {
            due("3: kind " + bad, -2, x.path(bad, 1, 1));
            due("3: kind and paths " + bad, -2, x.path(bad, 99, 99));
        }
        int[] badPredicates = {-1, 16, LOW, HIGH};
        for (int bad : badPredicates) {
            due("3: predicate " + bad, -2, x.path(0, bad, 1));
        }
        int[] badPaths = {-1, 0, 9, LOW, HIGH};
        for (int bad : badPaths) {
            for (int kind = 1; kind <= 6; kind++) {
                due("3: a of kind " + kind + ", " + bad, -1, x.path(kind, bad, 1));
            }
            due("3: b of kind 2, " + bad, -1, x.path(2, 1, bad));
            due("3: b of kind 3, " + bad, -1, x.path(3, 1, bad));
        }
        due("3: refusals change nothing", 9, x.path(0, 0, 0));
    }

    private static void pathsAreAtMost40() {
        PathSteps x = new PathSteps();
        for (int n = 1; n <= 40; n++) {
            due("3: path " + n, n, x.path(0, n % 16, 0));
        }
        due("3: the 41st, kind 0", -4, x.path(0, 0, 0));
        due("3: the 41st, kind 2", -4, x.path(2, 40, 40));
        due("3: the 41st, kind 4", -4, x.path(4, 40, 0));
        due("3: unknown comes before no room", -1, x.path(4, 41, 0));
        due("3: outside comes before no room", -2, x.path(0, 16, 0));
        due("3: kind comes before no room", -2, x.path(7, 1, 1));
        due("11: no room", -4, x.inverse(40));
        due("11: unknown comes before no room", -1, x.inverse(41));
        due("12: no room", -4, x.negated(0, -1));
        due("12: outside comes before no room", -2, x.negated(16, -1));
        due("3: the 40th can be run", 0, x.run(40, -1, -1));
        due("3: the 41st can't be run", -1, x.run(41, -1, -1));
    }

    private static void from() {
        PathSteps x = ring();
        due("4: one", 1, x.from(0));
        due("4: two", 2, x.from(1));
        due("4: one to the first node", 1, x.from(2));
        due("4: only come to", 0, x.from(3));
        due("4: in no triple", 0, x.from(31));
        x.triple(1, 3, 2);
        due("4: two to one node", 3, x.from(1));
        x.triple(1, 3, 2);
        due("4: the same again", 3, x.from(1));
        x.triple(31, 0, 31);
        due("4: to itself", 1, x.from(31));
        int[] bad = {-1, 32, LOW, HIGH};
        for (int node : bad) {
            due("4: node " + node, -2, x.from(node));
        }
    }

    private static void runRefuses() {
        PathSteps x = ring();
        int[] badPaths = {-1, 0, 3, LOW, HIGH};
        for (int bad : badPaths) {
            due("5: path " + bad, -1, x.run(bad, 0, 0));
            due("5: unknown comes before outside", -1, x.run(bad, 32, 32));
            due("7: path " + bad, -1, x.plain(bad, 0, 0));
            due("7: unknown comes before outside", -1, x.plain(bad, 32, 32));
        }
        int[] badEnds = {-2, 32, LOW, HIGH};
        for (int bad : badEnds) {
            due("5: first end " + bad, -2, x.run(1, bad, 0));
            due("5: other end " + bad, -2, x.run(1, -1, bad));
            due("7: first end " + bad, -2, x.plain(1, bad, 0));
            due("7: other end " + bad, -2, x.plain(1, -1, bad));
        }
        due("5: refused runs are none", -3, x.at(0, 0));
    }

    private static void runOfLinks() {
        PathSteps x = ring();
        due("5: links", 3, x.run(1, -1, -1));
        dueRows("5: links", x, "0-1:1 1-2:1 2-0:1");
        due("5: links from", 1, x.run(1, 2, -1));
        dueRows("5: links from", x, "2-0:1");
        due("5: links to", 1, x.run(1, -1, 2));
        dueRows("5: links to", x, "1-2:1");
        due("5: link both ends", 1, x.run(1, 0, 1));
        dueRows("5: link both ends", x, "0-1:1");
        due("5: no such link", 0, x.run(1, 1, 0));
        dueRows("5: no such link", x, "");
        due("5: the last node", 0, x.run(1, 31, 31));
        x.triple(31, 1, 31);
        due("5: the last node, joined", 1, x.run(1, 31, 31));
        dueRows("5: the last node, joined", x, "31-31:1");
    }

    private static void runOfInverse() {
        PathSteps x = ring();
        x.path(1, 1, 0);
        due("5: inverse", 3, x.run(3, -1, -1));
        dueRows("5: inverse", x, "0-2:1 1-0:1 2-1:1");
        x.path(3, 1, 1);
        x.path(1, 4, 0);
        due("5: inverse keeps how often", 6, x.run(5, -1, -1));
        dueRows("5: inverse keeps how often", x, "0-2:1 0-2:1 1-0:1 1-0:1 2-1:1 2-1:1");
    }

    private static void runOfBehindAndEither() {
        PathSteps x = ring();
        x.path(2, 1, 2);
        due("5: behind", 1, x.run(3, -1, -1));
        dueRows("5: behind", x, "0-3:1");
        x.path(2, 2, 1);
        due("5: behind, the other way", 0, x.run(4, -1, -1));
        x.path(3, 1, 2);
        due("5: either", 4, x.run(5, -1, -1));
        dueRows("5: either", x, "0-1:1 1-2:1 1-3:1 2-0:1");
        x.path(3, 5, 1);
        due("5: either, both together", 7, x.run(6, -1, -1));
        dueRows("5: either, both together", x, "0-1:1 0-1:1 1-2:1 1-2:1 1-3:1 2-0:1 2-0:1");
        x.path(2, 6, 6);
        due("5: behind multiplies", 4, x.run(7, 0, 2));
        dueRows("5: behind multiplies", x, "0-2:1 0-2:1 0-2:1 0-2:1");

        PathSteps two = new PathSteps();
        two.triple(0, 0, 1);
        two.triple(0, 0, 2);
        two.triple(1, 1, 3);
        two.triple(2, 1, 3);
        two.path(0, 0, 0);
        two.path(0, 1, 0);
        two.path(2, 1, 2);
        due("5: behind sums over all between", 2, two.run(3, 0, 3));
    }

    private static void runOfNoneOrMore() {
        PathSteps x = ring();
        x.path(4, 1, 0);
        due("5: none or more", 10, x.run(3, -1, -1));
        dueRows("5: none or more", x, "0-0:0 0-1:1 0-2:2 1-0:2 1-1:0 1-2:1 2-0:1 2-1:2 2-2:0 3-3:0");
        due("5: none or more from", 3, x.run(3, 1, -1));
        dueRows("5: none or more from", x, "1-0:2 1-1:0 1-2:1");
        due("5: none or more to", 1, x.run(3, -1, 3));
        dueRows("5: none or more to", x, "3-3:0");
        x.path(3, 1, 1);
        x.path(4, 4, 0);
        due("5: none or more is once", 10, x.run(5, -1, -1));
        x.path(4, 5, 0);
        due("5: none or more of none or more", 10, x.run(6, -1, -1));
        dueRows("5: none or more of none or more", x,
            "0-0:0 0-1:1 0-2:1 1-0:1 1-1:0 1-2:1 2-0:1 2-1:1 2-2:0 3-3:0");
        PathSteps empty = new PathSteps();
        empty.path(0, 0, 0);
        empty.path(4, 1, 0);
        due("5: none or more of nothing", 0, empty.run(2, -1, -1));
    }

    private static void runOfOneOrMore() {
        PathSteps x = ring();
        x.path(5, 1, 0);
        due("5: one or more", 9, x.run(3, -1, -1));
        dueRows("5: one or more", x, "0-0:3 0-1:1 0-2:2 1-0:2 1-1:3 1-2:1 2-0:1 2-1:2 2-2:3");
        x.path(3, 1, 1);
        x.path(5, 4, 0);
        due("5: one or more is once", 9, x.run(5, -1, -1));

        PathSteps down = chain(31);
        down.path(5, 1, 0);
        due("5: a chain through all nodes", 31 * 32 / 2, down.run(2, -1, -1));
        due("5: from the first to the last", 1, down.run(2, 0, 31));
        due("10: from the first to the last", 31, down.depth(0));
        due("5: from the last to the first", 0, down.run(2, 31, 0));
        due("5: no chain leads back", 0, down.run(2, 7, 7));
    }

    private static void runOfNoneOrOne() {
        PathSteps x = ring();
        x.path(6, 1, 0);
        due("5: none or one", 7, x.run(3, -1, -1));
        dueRows("5: none or one", x, "0-0:0 0-1:1 1-1:0 1-2:1 2-0:1 2-2:0 3-3:0");
        x.path(3, 1, 1);
        x.path(6, 4, 0);
        due("5: none or one is once", 7, x.run(5, -1, -1));
        x.triple(0, 1, 0);
        due("5: none or one of a link to itself", 1, x.run(3, 0, 0));
        due("10: none or one of a link to itself", 0, x.depth(0));
    }

    private static void runWithEndsOutsideTheTriples() {
        PathSteps x = ring();
        x.path(4, 1, 0);
        x.path(5, 1, 0);
        x.path(6, 1, 0);
        x.path(2, 3, 5);
        x.negated(1, -1);
        due("5: none or more, a told end", 1, x.run(3, 20, -1));
        dueRows("5: none or more, a told end", x, "20-20:0");
        due("5: none or more, the other end", 1, x.run(3, -1, 31));
        dueRows("5: none or more, the other end", x, "31-31:0");
        due("5: none or more, two told ends", 0, x.run(3, 20, 21));
        due("5: none or more, one end twice", 1, x.run(3, 20, 20));
        due("5: one or more, a told end", 0, x.run(4, 20, 20));
        due("5: none or one, a told end", 1, x.run(5, 20, -1));
        due("5: an inner path, a told end", 1, x.run(6, 20, -1));
        due("5: a link, a told end", 0, x.run(1, 20, -1));
        due("5: all others, a told end", 0, x.run(7, 20, 20));
        due("5: the next run tells no ends", 10, x.run(3, -1, -1));
        PathSteps bare = new PathSteps();
        bare.path(0, 0, 0);
        bare.path(4, 1, 0);
        bare.path(2, 2, 2);
        bare.path(5, 3, 0);
        due("5: a told end, deep inside", 1, bare.run(4, 0, -1));
        due("5: the next run forgets it", 0, bare.run(4, -1, -1));
        due("7: a told end", 1, x.plain(3, 20, 20));
        due("7: the next tells no ends", 10, x.plain(3, -1, -1));
    }

    private static void runGoesBeyond() {
        PathSteps x = ring();
        x.path(4, 1, 0);
        x.path(5, 1, 0);
        x.path(6, 1, 0);
        x.steps(10);
        due("5: none or more, just most", 10, x.run(3, -1, -1));
        due("5: a told end is in the graph", -5, x.run(3, 20, -1));
        due("5: a told end of the graph is there already", 1, x.run(3, 3, -1));
        x.steps(9);
        due("5: none or more, one beyond", -5, x.run(3, -1, -1));
        due("5: beyond whatever the ends are", -5, x.run(3, 0, 1));
        due("5: outside comes before beyond", -2, x.run(3, 32, 1));
        due("5: one or more, just most", 9, x.run(4, -1, -1));
        x.steps(8);
        due("5: one or more, one beyond", -5, x.run(4, -1, -1));
        x.steps(1);
        due("5: links are not bound", 3, x.run(1, -1, -1));
        due("5: none or one is not bound", 7, x.run(5, -1, -1));
        due("7: plain is not bound", 10, x.plain(3, -1, -1));
    }

    private static void runBeyondInAPart() {
        PathSteps x = ring();
        x.path(5, 1, 0);
        x.path(2, 2, 3);
        x.path(1, 4, 0);
        x.path(3, 2, 5);
        x.path(6, 6, 0);
        x.path(4, 2, 0);
        x.steps(8);
        due("5: beyond in the part behind", -5, x.run(4, -1, -1));
        due("5: beyond in a part of a part", -5, x.run(5, -1, -1));
        due("5: beyond in the other part", -5, x.run(6, -1, -1));
        due("5: beyond deep inside", -5, x.run(7, -1, -1));
        due("5: an earlier path that is no part", 5, x.run(8, -1, -1));
        x.steps(9);
        due("5: the parts are not beyond", 0, x.run(4, -1, -1));
        due("5: deep inside, not beyond", 5, x.run(7, -1, -1));
    }

    private static void runHasNoRoom() {
        // PATH 1 joins 0 to itself 5 times, PATH 2 25 times, PATH 3 625 times.
        PathSteps x = new PathSteps();
        for (int p = 0; p < 5; p++) {
            x.triple(0, p, 0);
        }
        x.triple(1, 6, 0);
        x.negated(6, -1);
        x.path(2, 1, 1);
        x.path(2, 2, 2);
        x.path(0, 0, 0);
        x.path(3, 4, 4);
        x.path(3, 5, 4);
        x.path(2, 3, 6);
        x.path(3, 7, 2);
        x.path(3, 8, 2);
        x.path(3, 9, 2);
        x.path(3, 10, 2);
        x.path(3, 11, 2);
        due("5: 625 * 3 + 25 * 5", 2000, x.run(12, -1, -1));
        due("5: the last of 2000", 0, x.at(1999, 1));
        due("5: behind the last of 2000", -1, x.at(2000, 1));
        x.path(3, 12, 4);
        due("5: 2001 rows", -4, x.run(13, -1, -1));
        due("7: 2001 rows", 2001, x.plain(13, -1, -1));
        due("5: 2001 rows, both ends told", -4, x.run(13, 0, 0));
        due("5: 2001 rows, none with that end", 0, x.run(13, 1, -1));

        x.path(5, 4, 0);
        x.path(3, 13, 14);
        x.triple(2, 0, 2);
        x.steps(1);
        due("5: beyond comes before no room", -5, x.run(15, -1, -1));
        x.steps(2);
        due("5: no room if not beyond", -4, x.run(15, -1, -1));
    }

    private static void refusedRunsLeaveTheRows() {
        PathSteps x = ring();
        x.path(4, 1, 0);
        x.run(3, -1, -1);
        String before = rowsOf(x);
        x.steps(1);
        due("5: beyond", -5, x.run(3, -1, -1));
        dueRows("5: beyond leaves the rows", x, before);
        x.run(99, -1, -1);
        dueRows("5: unknown leaves the rows", x, before);
        x.run(1, -2, -1);
        dueRows("5: outside leaves the rows", x, before);
        x.path(3, 1, 1);
        for (int n = 4; n < 20; n++) {
            x.path(3, n, n);
        }
        due("5: no room", -4, x.run(20, -1, -1));
        dueRows("5: no room leaves the rows", x, before);
        x.plain(1, -1, -1);
        dueRows("7: plain leaves the rows", x, before);

        PathSteps none = ring();
        none.path(4, 1, 0);
        none.steps(1);
        due("5: beyond at first", -5, none.run(3, -1, -1));
        due("6: beyond was no run", -3, none.at(0, 0));
        none.plain(1, -1, -1);
        due("7: plain is no run", -3, none.at(0, 0));
    }

    private static void rowsAreThoseOfTheirRun() {
        PathSteps x = chain(3);
        x.path(5, 1, 0);
        x.run(2, 0, -1);
        String before = rowsOf(x);
        x.triple(0, 0, 3);
        dueRows("6: a later triple is not of the run", x, before);
        x.run(2, 0, -1);
        dueRows("6: the next run has it", x, "0-1:1 0-2:2 0-3:1");
        x.triple(3, 0, 0);
        due("7: the next plain has it", 4, x.plain(2, 0, -1));
        x.triple(0, 1, 0);
        x.path(0, 1, 0);
        due("7: a first count", 1, x.plain(3, -1, -1));
        x.triple(0, 2, 0);
        due("7: a second count is not added to the first", 1, x.plain(3, -1, -1));
    }

    private static void at() {
        PathSteps x = ring();
        int[] badSides = {-1, 2, LOW, HIGH};
        for (int side : badSides) {
            due("6: side comes before no run, " + side, -2, x.at(0, side));
        }
        due("6: no run", -3, x.at(0, 0));
        due("6: no run comes before no row", -3, x.at(-1, 1));
        x.run(1, -1, -1);
        due("6: first end", 1, x.at(1, 0));
        due("6: other end", 2, x.at(1, 1));
        int[] badRows = {-1, 3, 2000, LOW, HIGH};
        for (int row : badRows) {
            due("6: row " + row, -1, x.at(row, 0));
            due("6: side comes before row " + row, -2, x.at(row, 2));
        }
        x.run(1, 3, -1);
        due("6: a run without rows", -1, x.at(0, 0));
    }

    private static void plain() {
        PathSteps x = ring();
        x.path(4, 1, 0);
        due("7: all", 10, x.plain(3, -1, -1));
        due("7: from", 3, x.plain(3, 0, -1));
        due("7: to", 1, x.plain(3, -1, 3));
        due("7: both ends", 1, x.plain(3, 0, 2));
        due("7: none", 0, x.plain(3, 3, 0));
        due("7: links", 3, x.plain(1, -1, -1));
    }

    private static void timesAreAtMostAMillion() {
        PathSteps x = new PathSteps();
        x.triple(4, 0, 4);
        x.path(0, 0, 0);
        x.path(3, 1, 1);
        for (int n = 2; n < 20; n++) {
            x.path(3, n, n);
        }
        due("7: below a million", 1 << 19, x.plain(20, -1, -1));
        x.path(3, 20, 20);
        due("7: either, above a million", 1000000, x.plain(21, -1, -1));
        x.path(2, 20, 2);
        due("7: behind, above a million", 1000000, x.plain(22, -1, -1));
        x.path(2, 21, 22);
        due("7: behind, a million times a million", 1000000, x.plain(23, 4, 4));
        x.path(1, 23, 0);
        due("7: the inverse of a million", 1000000, x.plain(24, 4, 4));
        x.path(5, 23, 0);
        due("7: one or more of a million", 1, x.plain(25, 4, 4));
        x.path(6, 23, 0);
        due("7: none or one of a million", 1, x.plain(26, 4, 4));

        PathSteps all = new PathSteps();
        for (int n = 0; n < 32; n++) {
            all.triple(n, 0, (n + 1) % 32);
        }
        all.path(0, 0, 0);
        all.path(5, 1, 0);
        for (int n = 2; n < 30; n++) {
            all.path(2, n, n);
        }
        due("7: all pairs a million times", 1024000000, all.plain(30, -1, -1));
        due("5: all pairs a million times", -4, all.run(30, -1, -1));
    }

    private static void steps() {
        PathSteps x = ring();
        x.path(4, 1, 0);
        due("8: the least", 1, x.steps(1));
        due("8: it holds", -5, x.run(3, -1, -1));
        due("8: the most", 1, x.steps(1024));
        due("8: it holds too", 10, x.run(3, -1, -1));
        due("8: set", 1, x.steps(9));
        int[] bad = {0, -1, 1025, LOW, HIGH};
        for (int most : bad) {
            due("8: most " + most, -2, x.steps(most));
            due("8: refusals change nothing", -5, x.run(3, -1, -1));
        }
        x.steps(10);
        due("8: just most", 10, x.run(3, -1, -1));
    }

    private static void cycle() {
        PathSteps x = ring();
        x.path(4, 1, 0);
        due("9: no run", false, x.cycle(0));
        x.run(3, 0, -1);
        due("9: both ends are one", true, x.cycle(0));
        due("9: two ends", false, x.cycle(1));
        x.run(3, 3, 3);
        due("9: of the last run", true, x.cycle(0));
        int[] bad = {1, -1, 2000, LOW, HIGH};
        for (int row : bad) {
            due("9: row " + row, false, x.cycle(row));
        }
        x.run(1, 3, 3);
        due("9: a run without rows", false, x.cycle(0));
    }

    private static void depth() {
        PathSteps x = chain(5);
        x.triple(0, 1, 3);
        x.path(0, 1, 0);
        x.path(3, 1, 2);
        x.path(4, 3, 0);
        x.run(4, 0, -1);
        dueRows("10: the shortest way", x, "0-0:0 0-1:1 0-2:2 0-3:1 0-4:2 0-5:3");
        x.path(2, 1, 1);
        x.path(5, 5, 0);
        x.run(6, 0, -1);
        dueRows("10: two links are one inner path", x, "0-2:1 0-4:2");
        x.path(1, 4, 0);
        x.run(7, -1, 0);
        dueRows("10: an inverse is of another kind", x, "0-0:1 1-0:1 2-0:1 3-0:1 4-0:1 5-0:1");
        x.path(2, 4, 4);
        x.run(8, 4, -1);
        dueRows("10: behind is of another kind", x, "4-4:1 4-5:1 4-5:1");
        x.path(3, 4, 4);
        x.run(9, 5, -1);
        dueRows("10: either is of another kind", x, "5-5:1 5-5:1");
        x.negated(0, -1);
        x.run(10, -1, -1);
        dueRows("10: negated is of another kind", x, "0-3:1");
        x.path(5, 4, 0);
        x.run(11, 0, 0);
        dueRows("10: one or more of none or more", x, "0-0:1");
        x.triple(5, 5, 5);
        x.path(0, 5, 0);
        x.path(5, 12, 0);
        x.run(13, 5, 5);
        dueRows("10: one link to itself", x, "5-5:1");
        x.path(6, 11, 0);
        x.run(14, 4, -1);
        dueRows("10: none or one", x, "4-4:0 4-5:1");

        PathSteps around = chain(31);
        around.triple(31, 0, 0);
        around.path(5, 1, 0);
        around.run(2, 0, 0);
        dueRows("10: once round all nodes", around, "0-0:32");
    }

    private static void depthThrows() {
        PathSteps x = ring();
        due("10: no run", true, depthThrowsAt(x, 0));
        x.run(1, -1, -1);
        due("10: the last row", false, depthThrowsAt(x, 2));
        int[] bad = {-1, 3, 2000, LOW, HIGH};
        for (int row : bad) {
            due("10: row " + row, true, depthThrowsAt(x, row));
        }
        dueRows("10: throwing changes nothing", x, "0-1:1 1-2:1 2-0:1");
        x.run(1, 3, 3);
        due("10: a run without rows", true, depthThrowsAt(x, 0));
    }

    private static void inverse() {
        PathSteps x = ring();
        due("11: the next number", 3, x.inverse(1));
        due("11: of an inverse", 4, x.inverse(3));
        due("11: rows", 3, x.run(3, -1, -1));
        dueRows("11: rows", x, "0-2:1 1-0:1 2-1:1");
        due("11: twice", 3, x.run(4, -1, -1));
        dueRows("11: twice", x, "0-1:1 1-2:1 2-0:1");
        int[] bad = {0, -1, 5, LOW, HIGH};
        for (int path : bad) {
            due("11: path " + path, -1, x.inverse(path));
        }
        due("11: refusals change nothing", 5, x.path(0, 0, 0));
    }

    private static void negated() {
        PathSteps x = ring();
        x.triple(0, 0, 1);
        x.triple(0, 15, 1);
        due("12: one", 3, x.negated(1, -1));
        due("12: two", 4, x.negated(1, 2));
        due("12: one twice", 5, x.negated(0, 0));
        due("12: the last", 6, x.negated(15, 0));
        due("12: without one", 3, x.run(3, -1, -1));
        dueRows("12: without one", x, "0-1:1 0-1:1 1-3:1");
        due("12: without two", 2, x.run(4, -1, -1));
        dueRows("12: without two", x, "0-1:1 0-1:1");
        due("12: without one twice", 5, x.run(5, -1, -1));
        dueRows("12: without one twice", x, "0-1:1 0-1:1 1-2:1 1-3:1 2-0:1");
        due("12: without the last", 1, x.run(6, 0, 1));
        int[] bad = {-1, 16, LOW, HIGH};
        for (int p : bad) {
            due("12: predicate " + p, -2, x.negated(p, 1));
            due("12: other " + p, p == -1 ? 7 : -2, x.negated(1, p));
        }
        due("12: other -2", -2, x.negated(1, -2));
        due("12: refusals change nothing", 8, x.path(0, 0, 0));
    }
}
