/** The promises, sentence by sentence: each that names a boundary case has its test. */
public final class PromisesTest {
    private static final int LOW = Due.LOW;
    private static final int HIGH = Due.HIGH;

    public static void main(String[] args) {
        Due.test(PromisesTest::newHasNoTriples);
        Due.test(PromisesTest::newHasNoPaths);
        Due.test(PromisesTest::newHasMost1024);
        Due.test(PromisesTest::newHasNoRun);
        Due.test(PromisesTest::tripleHowMany);
        Due.test(PromisesTest::tripleThereAlready);
        Due.test(PromisesTest::tripleOutside);
        Due.test(PromisesTest::tripleNoRoom);
        Due.test(PromisesTest::pathKinds);
        Due.test(PromisesTest::pathWhereBCounts);
        Due.test(PromisesTest::pathAnotherKind);
        Due.test(PromisesTest::pathNoPredicate);
        Due.test(PromisesTest::pathUnknown);
        Due.test(PromisesTest::pathNoRoom);
        Due.test(PromisesTest::pathOrder);
        Due.test(PromisesTest::fromHowMany);
        Due.test(PromisesTest::fromOutside);
        Due.test(PromisesTest::runHowMany);
        Due.test(PromisesTest::runBeyond);
        Due.test(PromisesTest::runUnknown);
        Due.test(PromisesTest::runOutside);
        Due.test(PromisesTest::runOrder);
        Due.test(PromisesTest::runNoRoom);
        Due.test(PromisesTest::runLeavesTheRows);
        Due.test(PromisesTest::atEnds);
        Due.test(PromisesTest::atAnotherSide);
        Due.test(PromisesTest::atNoneWasRun);
        Due.test(PromisesTest::atNoSuchRow);
        Due.test(PromisesTest::atOrder);
        Due.test(PromisesTest::plainWithoutBounds);
        Due.test(PromisesTest::plainIsNoRun);
        Due.test(PromisesTest::plainRefuses);
        Due.test(PromisesTest::stepsSets);
        Due.test(PromisesTest::stepsOutside);
        Due.test(PromisesTest::cycleBothEnds);
        Due.test(PromisesTest::cycleNoSuchRow);
        Due.test(PromisesTest::depthAtLeast);
        Due.test(PromisesTest::depthNone);
        Due.test(PromisesTest::depthOtherKinds);
        Due.test(PromisesTest::depthOfTheLastRun);
        Due.test(PromisesTest::depthThrows);
        Due.test(PromisesTest::inverseNumber);
        Due.test(PromisesTest::inverseUnknown);
        Due.test(PromisesTest::inverseNoRoom);
        Due.test(PromisesTest::negatedOneOrTwo);
        Due.test(PromisesTest::negatedOutside);
        Due.test(PromisesTest::negatedNoRoom);
        Due.end();
    }

    private static void newHasNoTriples() {
        Due.sentence("1: No TRIPLES");
        PathSteps x = new PathSteps();
        for (int n = 0; n < 32; n++) {
            Due.is("from " + n, 0, x.from(n));
        }
        x.negated(0, -1);
        x.negated(1, -1);
        x.path(3, 1, 2);
        x.path(4, 3, 0);
        Due.is("any link", 0, x.run(3, -1, -1));
        Due.is("any node", 0, x.run(4, -1, -1));
        Due.is("the first triple", 1, x.triple(0, 0, 0));
        Due.is("the first triple of another object", 1, new PathSteps().triple(0, 0, 0));
    }

    private static void newHasNoPaths() {
        Due.sentence("1: no PATHS");
        PathSteps x = new PathSteps();
        Due.is("run of 1", -1, x.run(1, -1, -1));
        Due.is("run of 0", -1, x.run(0, -1, -1));
        Due.is("plain of 1", -1, x.plain(1, -1, -1));
        Due.is("inverse of 1", -1, x.inverse(1));
        Due.is("path of 1", -1, x.path(4, 1, 1));
        Due.is("the first", 1, x.path(0, 0, 0));
        Due.is("the first of another object", 1, new PathSteps().path(0, 0, 0));
    }

    private static void newHasMost1024() {
        Due.sentence("1: MOST is 1024");
        PathSteps x = Given.round(32);
        x.path(4, 1, 0);
        x.path(5, 1, 0);
        Due.is("1024 pairs of none or more", 1024, x.run(2, -1, -1));
        Due.is("1024 pairs of one or more", 1024, x.run(3, -1, -1));
        x.steps(1023);
        Due.is("1024 pairs, most 1023", -5, x.run(2, -1, -1));
        PathSteps other = Given.round(32);
        other.path(5, 1, 0);
        Due.is("another object", 1024, other.run(2, -1, -1));
    }

    private static void newHasNoRun() {
        Due.sentence("1: no run");
        PathSteps x = new PathSteps();
        Due.is("at(0, 0)", -3, x.at(0, 0));
        Due.is("at(0, 1)", -3, x.at(0, 1));
        Due.is("cycle(0)", false, x.cycle(0));
        Due.noSuchRow("row 0", x, 0);
    }

    private static void tripleHowMany() {
        Due.sentence("2: A TRIPLE: how many there are");
        PathSteps x = new PathSteps();
        Due.is("the first", 1, x.triple(0, 0, 0));
        Due.is("the second", 2, x.triple(31, 15, 31));
        Due.is("the third", 3, x.triple(0, 15, 31));
        x.path(0, 15, 0);
        Due.is("they join", 2, x.run(1, -1, -1));
        Due.rows("they join", "0-31:1 31-31:1", x);
    }

    private static void tripleThereAlready() {
        Due.sentence("2: one that is there already changes nothing");
        PathSteps x = new PathSteps();
        x.triple(0, 0, 1);
        x.triple(0, 1, 1);
        Due.is("the first again", 2, x.triple(0, 0, 1));
        Due.is("the second again", 2, x.triple(0, 1, 1));
        Due.is("from", 2, x.from(0));
        x.path(0, 0, 0);
        Due.is("run", 1, x.run(1, -1, -1));
        x.triple(0, 0, 1);
        Due.rows("the run before", "0-1:1", x);

        PathSteps full = Given.triples150();
        Due.is("the first again, at 150", 150, full.triple(0, 0, 7));
        Due.is("the last again, at 150", 150, full.triple(21, 4, 7));
        Due.is("another is the 151st still", -4, full.triple(22, 4, 7));
    }

    private static void tripleOutside() {
        Due.sentence("2: -2 a NODE or the PREDICATE");
        PathSteps x = new PathSteps();
        x.triple(0, 0, 0);
        int[] nodes = {-1, 32, 64, LOW, HIGH};
        for (int n : nodes) {
            Due.is("from " + n, -2, x.triple(n, 0, 0));
            Due.is("to " + n, -2, x.triple(0, 0, n));
        }
        int[] predicates = {-1, 16, 32, LOW, HIGH};
        for (int p : predicates) {
            Due.is("by " + p, -2, x.triple(0, p, 0));
        }
        Due.is("all three", -2, x.triple(32, 16, 32));
        Due.is("the next good one", 2, x.triple(31, 15, 31));
    }

    private static void tripleNoRoom() {
        Due.sentence("2: -4 there are 150");
        PathSteps x = Given.triples150();
        Due.is("the 151st", -4, x.triple(31, 15, 31));
        Due.is("again", -4, x.triple(31, 15, 31));
        Due.is("outside comes first, from", -2, x.triple(32, 0, 0));
        Due.is("outside comes first, by", -2, x.triple(0, 16, 0));
        Due.is("outside comes first, to", -2, x.triple(0, 0, -1));
        Due.is("it is not there", 4, x.from(31));
        x.path(0, 15, 0);
        Due.is("it joins nothing", 0, x.plain(1, -1, -1));
    }

    private static void pathKinds() {
        Due.sentence("3: A PATH of a KIND 0 .. 6 (b counts for 2 and 3 alone): its number");
        PathSteps x = Given.ring();
        Due.is("kind 0", 3, x.path(0, 1, 0));
        Due.is("kind 1", 4, x.path(1, 1, 0));
        Due.is("kind 2", 5, x.path(2, 1, 2));
        Due.is("kind 3", 6, x.path(3, 1, 2));
        Due.is("kind 4", 7, x.path(4, 1, 0));
        Due.is("kind 5", 8, x.path(5, 1, 0));
        Due.is("kind 6", 9, x.path(6, 1, 0));
        String[] rows = {
            "0-1:1", "0-2:1", "0-3:1", "0-1:1", "0-0:0 0-1:1 0-2:2", "0-0:3 0-1:1 0-2:2", "0-0:0 0-1:1",
        };
        for (int kind = 0; kind <= 6; kind++) {
            x.run(3 + kind, 0, -1);
            Due.rows("kind " + kind + " from 0", rows[kind], x);
        }
    }

    private static void pathWhereBCounts() {
        Due.sentence("3: (b counts for 2 and 3 alone)");
        int[] none = {-1, 0, 99, LOW, HIGH};
        for (int b : none) {
            PathSteps x = new PathSteps();
            Due.is("kind 0, b " + b, 1, x.path(0, 0, b));
            Due.is("kind 1, b " + b, 2, x.path(1, 1, b));
            Due.is("kind 2, b " + b, -1, x.path(2, 1, b));
            Due.is("kind 3, b " + b, -1, x.path(3, 1, b));
            Due.is("kind 4, b " + b, 3, x.path(4, 1, b));
            Due.is("kind 5, b " + b, 4, x.path(5, 1, b));
            Due.is("kind 6, b " + b, 5, x.path(6, 1, b));
        }
        // A good b is no part of the others either: PATH 3 is beyond, PATH 2 is what they are made of.
        PathSteps x = Given.ringWithWalks();
        x.steps(9);
        int[] kinds = {1, 4, 5, 6};
        int[] pairs = {1, 5, 1, 5};
        for (int k = 0; k < 4; k++) {
            Due.is("kind " + kinds[k] + " with a good b", pairs[k], x.run(x.path(kinds[k], 2, 3), -1, -1));
        }
        Due.is("kind 2 with a b that is beyond", -5, x.run(x.path(2, 2, 3), -1, -1));
    }

    private static void pathAnotherKind() {
        Due.sentence("3: -2 another KIND");
        PathSteps x = new PathSteps();
        int[] kinds = {-1, 7, 8, 16, LOW, HIGH};
        for (int kind : kinds) {
            Due.is("kind " + kind + ", no paths yet", -2, x.path(kind, 0, 0));
        }
        x.path(0, 0, 0);
        for (int kind : kinds) {
            Due.is("kind " + kind, -2, x.path(kind, 1, 1));
            Due.is("kind " + kind + ", no such paths", -2, x.path(kind, 99, 99));
        }
        Due.is("the next good one", 2, x.path(6, 1, 0));
    }

    private static void pathNoPredicate() {
        Due.sentence("3: or for 0 no such PREDICATE");
        PathSteps x = new PathSteps();
        int[] predicates = {-1, 16, 17, 32, LOW, HIGH};
        for (int p : predicates) {
            Due.is("predicate " + p, -2, x.path(0, p, 1));
        }
        Due.is("the first predicate, no path", 1, x.path(0, 0, 0));
        Due.is("the last predicate, no path", 2, x.path(0, 15, 0));
    }

    private static void pathUnknown() {
        Due.sentence("3: -1 a or b (where it counts) is no PATH");
        PathSteps x = Given.ring();
        int[] none = {0, -1, 3, 41, 65, LOW, HIGH};
        for (int n : none) {
            for (int kind = 1; kind <= 6; kind++) {
                Due.is("kind " + kind + ", a " + n, -1, x.path(kind, n, 1));
            }
            Due.is("kind 2, b " + n, -1, x.path(2, 1, n));
            Due.is("kind 3, b " + n, -1, x.path(3, 1, n));
            Due.is("kind 2, both " + n, -1, x.path(2, n, n));
        }
        Due.is("the last one is a path", 3, x.path(2, 2, 2));
    }

    private static void pathNoRoom() {
        Due.sentence("3: -4 there are 40");
        PathSteps x = Given.paths40();
        for (int kind = 0; kind <= 6; kind++) {
            Due.is("kind " + kind, -4, x.path(kind, 1, 40));
        }
        Due.is("there is no 41st", -1, x.plain(41, -1, -1));
    }

    private static void pathOrder() {
        Due.sentence("3: in the order -1, -2, -4");
        PathSteps x = Given.paths40();
        for (int kind = 1; kind <= 6; kind++) {
            Due.is("kind " + kind + ", unknown before no room", -1, x.path(kind, 41, 1));
        }
        Due.is("kind 2, b unknown before no room", -1, x.path(2, 1, 41));
        Due.is("kind 3, b unknown before no room", -1, x.path(3, 1, 0));
        Due.is("predicate before no room", -2, x.path(0, 16, 0));
        Due.is("kind 7 before no room", -2, x.path(7, 1, 1));
        Due.is("kind -1 before no room", -2, x.path(-1, 1, 1));
    }

    private static void fromHowMany() {
        Due.sentence("4: How many TRIPLES go out from a NODE");
        PathSteps x = Given.ring();
        Due.is("one", 1, x.from(0));
        Due.is("two", 2, x.from(1));
        Due.is("only come to", 0, x.from(3));
        Due.is("in no triple", 0, x.from(31));
        x.triple(1, 3, 2);
        Due.is("two to one node", 3, x.from(1));
        x.triple(31, 0, 31);
        Due.is("to itself", 1, x.from(31));
        PathSteps all = new PathSteps();
        for (int n = 0; n < 150; n++) {
            all.triple(31, n / 32, n % 32);
        }
        Due.is("all 150", 150, all.from(31));
        Due.is("none of 150", 0, all.from(30));
    }

    private static void fromOutside() {
        Due.sentence("4: -2");
        PathSteps x = Given.ring();
        int[] nodes = {-1, 32, 64, LOW, HIGH};
        for (int n : nodes) {
            Due.is("node " + n, -2, x.from(n));
        }
    }

    private static void runHowMany() {
        Due.sentence("5: A RUN: how many ROWS");
        PathSteps x = Given.ring();
        x.path(0, 9, 0);
        Due.is("none", 0, x.run(3, -1, -1));
        Due.is("one", 1, x.run(1, 0, 1));
        Due.is("three", 3, x.run(1, -1, -1));
        Due.rows("three", "0-1:1 1-2:1 2-0:1", x);
        x.triple(3, 1, 3);
        Due.rows("three, and a triple behind the run", "0-1:1 1-2:1 2-0:1", x);
        Due.is("four", 4, x.run(1, -1, -1));
        Due.rows("four", "0-1:1 1-2:1 2-0:1 3-3:1", x);
    }

    private static void runBeyond() {
        Due.sentence("5: or -5: it goes BEYOND");
        PathSteps x = Given.ringWithWalks();
        x.steps(9);
        Due.is("10 pairs", -5, x.run(3, -1, -1));
        Due.is("9 pairs", 9, x.run(4, -1, -1));
        x.triple(3, 1, 3);
        Due.is("10 pairs by one more triple", -5, x.run(4, -1, -1));
    }

    private static void runUnknown() {
        Due.sentence("5: -1 no such PATH");
        PathSteps x = Given.ring();
        int[] none = {0, -1, 3, 41, 65, LOW, HIGH};
        for (int n : none) {
            Due.is("path " + n, -1, x.run(n, -1, -1));
        }
        Due.is("path 2", 1, x.run(2, -1, -1));
    }

    private static void runOutside() {
        Due.sentence("5: -2 an end is not -1 .. 31");
        PathSteps x = Given.ring();
        int[] ends = {-2, 32, 64, LOW, HIGH};
        for (int n : ends) {
            Due.is("from " + n, -2, x.run(1, n, -1));
            Due.is("to " + n, -2, x.run(1, -1, n));
            Due.is("both " + n, -2, x.run(1, n, n));
        }
        Due.is("-1 and 31", 0, x.run(1, -1, 31));
        Due.is("31 and -1", 0, x.run(1, 31, -1));
        Due.is("0 and -1", 1, x.run(1, 0, -1));
        Due.is("-1 and 0", 1, x.run(1, -1, 0));
    }

    private static void runOrder() {
        Due.sentence("5: -1 no such PATH, -2 an end is not -1 .. 31, then -5, then -4");
        // PATH 12 walks one loop, PATH 13 has 2001 ROWS and is made of it.
        PathSteps x = Given.about2000();
        x.path(5, 1, 0);
        x.path(2, 11, 12);
        x.triple(5, 0, 5);
        x.steps(1);
        Due.is("-1 before -2", -1, x.run(14, 32, -2));
        Due.is("-2 before -5", -2, x.run(12, 32, -1));
        Due.is("-2 before -5, the other end", -2, x.run(12, -1, -2));
        Due.is("-2 before -4", -2, x.run(11, 32, -1));
        Due.is("-5 before -4", -5, x.run(13, -1, -1));
        x.steps(2);
        Due.is("-4", -4, x.run(13, -1, -1));
    }

    private static void runNoRoom() {
        Due.sentence("5: -4: there would be more than 2000 ROWS");
        PathSteps x = Given.about2000();
        Due.is("1999", 1999, x.run(9, -1, -1));
        Due.is("row 1998 of them", 0, x.at(1998, 1));
        Due.is("row 1999 of them", -1, x.at(1999, 1));
        Due.is("2000", 2000, x.run(10, -1, -1));
        Due.is("row 1999", 0, x.at(1999, 0));
        Due.is("row 2000", -1, x.at(2000, 0));
        Due.is("its depth", 1, x.depth(1999));
        Due.is("its cycle", true, x.cycle(1999));
        Due.noSuchRow("row 2000", x, 2000);
        Due.is("2001", -4, x.run(11, -1, -1));
        Due.is("2001, both ends told", -4, x.run(11, 0, 0));
        Due.is("2001, but none with that end", 0, x.run(11, 1, -1));

        // All ROWS count, not those of one pair: 1000 from 0 to itself, 1000 or 1001 from 1 to 0.
        PathSteps two = Given.about2000();
        two.triple(1, 15, 0);
        two.path(0, 15, 0);
        two.path(2, 12, 4);
        two.path(3, 13, 4);
        Due.is("two pairs, 1000 each", 2000, two.run(14, -1, -1));
        Due.is("the last row, from", 1, two.at(1999, 0));
        two.path(3, 14, 12);
        Due.is("two pairs, 1000 and 1001", -4, two.run(15, -1, -1));
        Due.is("one of them", 1001, two.run(15, 1, -1));
        Due.is("a million", -4, two.run(two.path(2, 11, 11), -1, -1));
    }

    private static void runLeavesTheRows() {
        Due.sentence("5: (What is refused, or BEYOND, leaves the ROWS of the run before.)");
        PathSteps x = Given.about2000();
        x.triple(0, 1, 4);
        x.path(5, 1, 0);
        x.triple(3, 0, 3);
        x.path(0, 1, 0);
        x.path(4, 13, 0);
        x.run(14, 0, -1);
        String before = "0-0:0 0-4:1";
        Due.rows("the run before", before, x);
        Due.is("unknown", -1, x.run(15, -1, -1));
        Due.rows("unknown", before, x);
        Due.is("outside", -2, x.run(1, 32, -1));
        Due.rows("outside", before, x);
        x.steps(1);
        Due.is("beyond", -5, x.run(12, -1, -1));
        Due.rows("beyond", before, x);
        Due.is("no room", -4, x.run(11, -1, -1));
        Due.rows("no room", before, x);
        Due.is("its cycle", true, x.cycle(0));

        PathSteps none = Given.about2000();
        none.triple(3, 0, 3);
        none.path(5, 1, 0);
        none.steps(1);
        none.run(99, -1, -1);
        none.run(1, 32, -1);
        none.run(12, -1, -1);
        none.run(11, -1, -1);
        Due.is("no run before", -3, none.at(0, 0));
        Due.is("no run before, cycle", false, none.cycle(0));
        Due.noSuchRow("no run before", none, 0);
    }

    private static void atEnds() {
        Due.sentence("6: An end of a ROW of the last run, 0 the first one, 1 the other");
        PathSteps x = Given.ring();
        x.run(2, -1, -1);
        x.run(1, -1, -1);
        Due.is("first row, first end", 0, x.at(0, 0));
        Due.is("first row, other end", 1, x.at(0, 1));
        Due.is("last row, first end", 2, x.at(2, 0));
        Due.is("last row, other end", 0, x.at(2, 1));
    }

    private static void atAnotherSide() {
        Due.sentence("6: -2 another side");
        PathSteps x = Given.ring();
        x.run(1, -1, -1);
        int[] sides = {-1, 2, 3, LOW, HIGH};
        for (int side : sides) {
            Due.is("side " + side, -2, x.at(0, side));
        }
    }

    private static void atNoneWasRun() {
        Due.sentence("6: -3 none was run");
        PathSteps x = Given.ring();
        Due.is("before", -3, x.at(0, 0));
        x.plain(1, -1, -1);
        Due.is("behind plain", -3, x.at(0, 1));
        x.run(1, 3, 3);
        Due.is("behind a run without rows", -1, x.at(0, 0));
    }

    private static void atNoSuchRow() {
        Due.sentence("6: -1 no such ROW");
        PathSteps x = Given.ring();
        x.run(1, -1, -1);
        int[] none = {-1, 3, 1999, 2000, LOW, HIGH};
        for (int i : none) {
            Due.is("row " + i, -1, x.at(i, 0));
            Due.is("row " + i + ", other end", -1, x.at(i, 1));
        }
        x.run(2, -1, -1);
        Due.is("a row of the run before the last", -1, x.at(1, 0));
        Due.is("the row of the last", 1, x.at(0, 0));
    }

    private static void atOrder() {
        Due.sentence("6: -2 another side, -3 none was run, -1 no such ROW: in this order");
        PathSteps x = Given.ring();
        Due.is("-2 before -3", -2, x.at(0, 2));
        Due.is("-2 before -3 and -1", -2, x.at(-1, -1));
        Due.is("-3 before -1", -3, x.at(-1, 0));
        Due.is("-3 before -1, far", -3, x.at(HIGH, 1));
        x.run(1, -1, -1);
        Due.is("-2 before -1", -2, x.at(3, 2));
    }

    private static void plainWithoutBounds() {
        Due.sentence("7: How many ROWS a run would have without bounds");
        PathSteps x = Given.ringWithWalks();
        Due.is("all", 10, x.plain(3, -1, -1));
        Due.is("from", 3, x.plain(3, 0, -1));
        Due.is("to", 1, x.plain(3, -1, 3));
        Due.is("both ends", 1, x.plain(3, 0, 2));
        Due.is("none", 0, x.plain(3, 3, 0));
        x.steps(1);
        Due.is("beyond most", 10, x.plain(3, -1, -1));
        Due.is("beyond most, from", 3, x.plain(3, 0, -1));
        Due.is("run is bound", -5, x.run(3, -1, -1));
        PathSteps many = Given.about2000();
        Due.is("2000", 2000, many.plain(10, -1, -1));
        Due.is("2001", 2001, many.plain(11, -1, -1));
        many.path(2, 4, 9);
        Due.is("1000 * 1999, of which times are a million", 1000000, many.plain(12, -1, -1));
    }

    private static void plainIsNoRun() {
        Due.sentence("7: How many ROWS a run would have");
        PathSteps x = Given.ring();
        x.plain(1, -1, -1);
        Due.is("no run", -3, x.at(0, 0));
        Due.is("no run, cycle", false, x.cycle(0));
        Due.noSuchRow("no run", x, 0);
        x.run(2, -1, -1);
        x.plain(1, -1, -1);
        Due.rows("the run before", "1-3:1", x);
        x.triple(3, 1, 3);
        Due.is("with a new triple", 4, x.plain(1, -1, -1));
        Due.is("the same again", 4, x.plain(1, -1, -1));
    }

    private static void plainRefuses() {
        Due.sentence("7: -1, -2 as with run");
        PathSteps x = Given.ring();
        int[] none = {0, -1, 3, 41, 65, LOW, HIGH};
        for (int n : none) {
            Due.is("path " + n, -1, x.plain(n, -1, -1));
            Due.is("path " + n + ", -1 before -2", -1, x.plain(n, 32, 32));
        }
        int[] ends = {-2, 32, 64, LOW, HIGH};
        for (int n : ends) {
            Due.is("from " + n, -2, x.plain(1, n, -1));
            Due.is("to " + n, -2, x.plain(1, -1, n));
        }
        Due.is("-1 and 31", 0, x.plain(1, -1, 31));
        Due.is("31 and -1", 0, x.plain(1, 31, -1));
    }

    private static void stepsSets() {
        Due.sentence("8: MOST, 1 .. 1024: 1");
        PathSteps x = Given.round(32);
        x.path(5, 1, 0);
        Due.is("the least", 1, x.steps(1));
        Due.is("it holds", -5, x.run(2, -1, -1));
        Due.is("1023", 1, x.steps(1023));
        Due.is("it holds too", -5, x.run(2, -1, -1));
        Due.is("the most", 1, x.steps(1024));
        Due.is("it holds as well", 1024, x.run(2, -1, -1));
        PathSteps one = new PathSteps();
        one.triple(0, 0, 0);
        one.path(0, 0, 0);
        one.path(4, 1, 0);
        one.steps(1);
        Due.is("one pair, most 1", 1, one.run(2, -1, -1));
        one.triple(1, 1, 1);
        Due.is("two pairs, most 1", -5, one.run(2, -1, -1));
        one.steps(2);
        Due.is("two pairs, most 2", 2, one.run(2, -1, -1));
    }

    private static void stepsOutside() {
        Due.sentence("8: -2");
        PathSteps x = Given.ringWithWalks();
        x.steps(9);
        int[] none = {0, -1, 1025, LOW, HIGH};
        for (int n : none) {
            Due.is("most " + n, -2, x.steps(n));
            Due.is("10 pairs, behind most " + n, -5, x.run(3, -1, -1));
            Due.is("9 pairs, behind most " + n, 9, x.run(4, -1, -1));
        }
    }

    private static void cycleBothEnds() {
        Due.sentence("9: Whether both ends of a ROW of the last run are one");
        PathSteps x = Given.ringWithWalks();
        x.run(3, 0, -1);
        Due.is("0-0", true, x.cycle(0));
        Due.is("0-1", false, x.cycle(1));
        Due.is("0-2", false, x.cycle(2));
        x.run(1, -1, -1);
        Due.is("0-1, of the last run", false, x.cycle(0));
        x.run(4, 2, 2);
        Due.is("2-2 by three", true, x.cycle(0));
        x.run(3, 31, -1);
        Due.is("31-31, a told end", true, x.cycle(0));
    }

    private static void cycleNoSuchRow() {
        Due.sentence("9: false if there is no such ROW");
        PathSteps x = Given.ringWithWalks();
        Due.is("no run", false, x.cycle(0));
        x.run(4, -1, -1);
        Due.is("the last row", true, x.cycle(8));
        int[] none = {-1, 9, 1999, 2000, LOW, HIGH};
        for (int i : none) {
            Due.is("row " + i, false, x.cycle(i));
        }
        x.run(3, 3, 3);
        Due.is("the only row", true, x.cycle(0));
        Due.is("a row of the run before the last", false, x.cycle(8));
        x.run(1, 3, 3);
        Due.is("a run without rows", false, x.cycle(0));
    }

    private static void depthAtLeast() {
        Due.sentence("10: how many of its PATH's inner one, at least, one behind another, join it, "
            + "if it is of KIND 4, 5 or 6");
        PathSteps x = Given.chain(5);
        x.triple(0, 1, 3);
        x.negated(9, -1);
        x.path(4, 2, 0);
        x.path(5, 2, 0);
        x.path(6, 2, 0);
        x.run(3, 0, -1);
        Due.rows("kind 4", "0-0:0 0-1:1 0-2:2 0-3:1 0-4:2 0-5:3", x);
        x.run(4, 0, -1);
        Due.rows("kind 5", "0-1:1 0-2:2 0-3:1 0-4:2 0-5:3", x);
        x.run(5, 0, -1);
        Due.rows("kind 6", "0-0:0 0-1:1 0-3:1", x);
        x.path(2, 1, 1);
        x.path(5, 6, 0);
        x.run(7, 0, -1);
        Due.rows("two links are one inner path", "0-2:1 0-4:2", x);
        x.path(5, 4, 0);
        x.run(8, 0, 5);
        Due.rows("three links are one inner path", "0-5:1", x);

        PathSteps longest = Given.chain(31);
        longest.path(4, 1, 0);
        longest.path(5, 1, 0);
        longest.run(2, 0, 31);
        Due.rows("31 links, kind 4", "0-31:31", longest);
        longest.run(3, 0, 31);
        Due.rows("31 links, kind 5", "0-31:31", longest);
        longest.triple(31, 0, 0);
        longest.run(3, 31, 31);
        Due.rows("32 links, kind 5", "31-31:32", longest);
        longest.triple(31, 0, 31);
        longest.run(3, 31, 31);
        Due.rows("one link, kind 5", "31-31:1", longest);
    }

    private static void depthNone() {
        Due.sentence("10: (0 for a NODE and itself with 4, 6)");
        PathSteps x = Given.ringWithWalks();
        x.triple(3, 1, 3);
        x.run(3, 0, 0);
        Due.rows("kind 4, on a round", "0-0:0", x);
        x.run(5, 0, 0);
        Due.rows("kind 6, on a round", "0-0:0", x);
        x.run(4, 0, 0);
        Due.rows("kind 5, on a round", "0-0:3", x);
        x.run(3, 3, 3);
        Due.rows("kind 4, with a link to itself", "3-3:0", x);
        x.run(5, 3, 3);
        Due.rows("kind 6, with a link to itself", "3-3:0", x);
        x.run(4, 3, 3);
        Due.rows("kind 5, with a link to itself", "3-3:1", x);
        x.run(3, 20, 20);
        Due.rows("kind 4, a told end", "20-20:0", x);
        x.run(5, 31, 31);
        Due.rows("kind 6, a told end", "31-31:0", x);
        x.path(5, 3, 0);
        x.run(6, 0, 0);
        Due.rows("kind 5 of kind 4", "0-0:1", x);
    }

    private static void depthOtherKinds() {
        Due.sentence("10: 1 for other KINDS");
        PathSteps x = Given.ringWithWalks();
        x.inverse(3);
        x.path(2, 3, 3);
        x.path(3, 3, 4);
        x.negated(1, -1);
        x.run(1, 0, 1);
        Due.rows("kind 0", "0-1:1", x);
        x.run(6, -1, 0);
        Due.rows("kind 1 of kind 4", "0-0:1 1-0:1 2-0:1", x);
        x.run(7, 3, -1);
        Due.rows("kind 2 of kind 4", "3-3:1", x);
        x.run(8, 0, -1);
        Due.rows("kind 3 of kinds 4 and 5", "0-0:1 0-0:1 0-1:1 0-1:1 0-2:1 0-2:1", x);
        x.run(9, -1, -1);
        Due.rows("kind 7", "1-3:1", x);
    }

    private static void depthOfTheLastRun() {
        Due.sentence("10: Of a ROW of the last run");
        PathSteps x = Given.chain(3);
        x.path(5, 1, 0);
        x.run(2, 0, 3);
        Due.rows("by three", "0-3:3", x);
        x.triple(0, 0, 3);
        Due.rows("by three, whatever came later", "0-3:3", x);
        x.plain(2, -1, -1);
        Due.rows("by three, though another count knows it", "0-3:3", x);
        x.run(2, 0, 3);
        Due.rows("by one in the next run", "0-3:1", x);
    }

    private static void depthThrows() {
        Due.sentence("10: ArrayIndexOutOfBounds: there is no such ROW");
        PathSteps x = Given.ringWithWalks();
        Due.noSuchRow("no run", x, 0);
        x.run(3, -1, -1);
        Due.is("the first row", 0, x.depth(0));
        Due.is("the last row", 0, x.depth(9));
        int[] none = {-1, 10, 1999, 2000, LOW, HIGH};
        for (int i : none) {
            Due.noSuchRow("row " + i, x, i);
        }
        Due.is("throwing changes nothing", 1, x.depth(1));
        x.run(1, -1, -1);
        Due.noSuchRow("a row of the run before the last", x, 3);
        x.run(1, 3, 3);
        Due.noSuchRow("a run without rows", x, 0);
    }

    private static void inverseNumber() {
        Due.sentence("11: A PATH of KIND 1: its number");
        PathSteps x = Given.ring();
        Due.is("the next", 3, x.inverse(1));
        Due.is("of an inverse", 4, x.inverse(3));
        x.run(3, -1, -1);
        Due.rows("once", "0-2:1 1-0:1 2-1:1", x);
        x.run(4, -1, -1);
        Due.rows("twice", "0-1:1 1-2:1 2-0:1", x);
    }

    private static void inverseUnknown() {
        Due.sentence("11: -1 no such PATH");
        PathSteps x = Given.ring();
        int[] none = {0, -1, 3, 41, 65, LOW, HIGH};
        for (int n : none) {
            Due.is("path " + n, -1, x.inverse(n));
        }
        Due.is("the next", 3, x.inverse(2));
    }

    private static void inverseNoRoom() {
        Due.sentence("11: -4");
        PathSteps x = Given.ring();
        for (int n = 2; n < 40; n++) {
            Due.is("path " + (n + 1), n + 1, x.inverse(n));
        }
        Due.is("path 41", -4, x.inverse(40));
        Due.is("-1 before -4", -1, x.inverse(41));
        Due.is("-1 before -4, path 0", -1, x.inverse(0));
    }

    private static void negatedOneOrTwo() {
        Due.sentence("12: A PATH of KIND 7, without one PREDICATE, or two (other -1: one): its number");
        PathSteps x = Given.ring();
        x.triple(0, 0, 1);
        x.triple(0, 15, 1);
        Due.is("one", 3, x.negated(1, -1));
        Due.is("two", 4, x.negated(1, 2));
        Due.is("two, turned", 5, x.negated(2, 1));
        Due.is("one twice", 6, x.negated(0, 0));
        Due.is("the last and the first", 7, x.negated(15, 0));
        x.run(3, -1, -1);
        Due.rows("without one", "0-1:1 0-1:1 1-3:1", x);
        x.run(4, -1, -1);
        Due.rows("without two", "0-1:1 0-1:1", x);
        x.run(5, -1, -1);
        Due.rows("without two, turned", "0-1:1 0-1:1", x);
        x.run(6, -1, -1);
        Due.rows("without one twice", "0-1:1 0-1:1 1-2:1 1-3:1 2-0:1", x);
        x.run(7, 0, 1);
        Due.rows("without the last and the first", "0-1:1", x);
    }

    private static void negatedOutside() {
        Due.sentence("12: -2 no such PREDICATE");
        PathSteps x = new PathSteps();
        int[] none = {-2, 16, 32, LOW, HIGH};
        for (int p : none) {
            Due.is("without " + p, -2, x.negated(p, -1));
            Due.is("without " + p + " and 0", -2, x.negated(p, 0));
            Due.is("without 0 and " + p, -2, x.negated(0, p));
        }
        Due.is("without -1", -2, x.negated(-1, -1));
        Due.is("without -1 and 0", -2, x.negated(-1, 0));
        Due.is("without 0 and 15", 1, x.negated(0, 15));
        Due.is("without 15", 2, x.negated(15, -1));
    }

    private static void negatedNoRoom() {
        Due.sentence("12: -4");
        PathSteps x = new PathSteps();
        for (int n = 1; n <= 40; n++) {
            Due.is("path " + n, n, x.negated(n % 16, n % 2 == 0 ? -1 : 3));
        }
        Due.is("path 41", -4, x.negated(0, -1));
        Due.is("path 41, without two", -4, x.negated(0, 1));
        Due.is("-2 before -4", -2, x.negated(16, -1));
        Due.is("-2 before -4, the other", -2, x.negated(0, 16));
    }
}
