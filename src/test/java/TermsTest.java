/** 'What it is' and 'Terms', sentence by sentence: each that names a boundary case has its test. */
public final class TermsTest {
    private static final int LOW = Due.LOW;
    private static final int HIGH = Due.HIGH;

    public static void main(String[] args) {
        Due.test(TermsTest::calls);
        Due.test(TermsTest::nodes);
        Due.test(TermsTest::predicates);
        Due.test(TermsTest::triplesAtMost);
        Due.test(TermsTest::triplesEachOnce);
        Due.test(TermsTest::pathsAtMost);
        Due.test(TermsTest::pathsFromOneOn);
        Due.test(TermsTest::pathsOfEarlierOnes);
        Due.test(TermsTest::timesAtMost);
        Due.test(TermsTest::timesAtMostForEachPair);
        Due.test(TermsTest::timesAtMostOfASum);
        Due.test(TermsTest::kind0);
        Due.test(TermsTest::kind1);
        Due.test(TermsTest::kind2);
        Due.test(TermsTest::kind3);
        Due.test(TermsTest::kind4Itself);
        Due.test(TermsTest::kind4ComeTo);
        Due.test(TermsTest::kind5);
        Due.test(TermsTest::kind6);
        Due.test(TermsTest::kind7);
        Due.test(TermsTest::graphOfTriples);
        Due.test(TermsTest::graphOfToldEnds);
        Due.test(TermsTest::onlyByTriples);
        Due.test(TermsTest::endsTold);
        Due.test(TermsTest::rowsByXThenByY);
        Due.test(TermsTest::rowsAsOftenAsJoined);
        Due.test(TermsTest::beyondMoreThanMost);
        Due.test(TermsTest::beyondOfKind4Or5);
        Due.test(TermsTest::beyondInWhatItIsMadeOf);
        Due.test(TermsTest::beyondInTheGraphOfTheRun);
        Due.end();
    }

    private static void calls() {
        Due.sentence("An object is used for at most 512 calls after it has been made");
        // 17 calls for the links, 39 for the PATHS behind; ends that change make each count a new one.
        PathSteps x = Given.round(16);
        x.path(5, 1, 0);
        for (int n = 2; n < 40; n++) {
            x.path(2, n, n);
        }
        for (int call = 57; call <= 511; call++) {
            boolean inTheRound = call % 2 == 0;
            int s = inTheRound ? call % 16 : 16 + call % 16;
            Due.is("call " + call + ", plain from " + s, inTheRound ? 16000000 : 0, x.plain(40, s, -1));
        }
        Due.is("call 512", 1, x.run(1, 15, 0));
    }

    private static void nodes() {
        Due.sentence("NODES are 0 .. 31");
        PathSteps x = new PathSteps();
        Due.is("a triple of the first and the last", 1, x.triple(0, 0, 31));
        Due.is("a triple of the last and the first", 2, x.triple(31, 0, 0));
        x.path(0, 0, 0);
        Due.is("from the first", 1, x.from(0));
        Due.is("from the last", 1, x.from(31));
        Due.is("run from the first to the last", 1, x.run(1, 0, 31));
        Due.is("run from the last to the first", 1, x.run(1, 31, 0));
        Due.is("plain from the first to the last", 1, x.plain(1, 0, 31));
        Due.is("plain from the last to the first", 1, x.plain(1, 31, 0));
        // 64 and LOW would be NODE 0 again in a mask or a shift.
        int[] none = {-2, 32, 33, 63, 64, LOW, HIGH};
        for (int n : none) {
            Due.is("a triple from " + n, -2, x.triple(n, 0, 0));
            Due.is("a triple to " + n, -2, x.triple(0, 0, n));
            Due.is("from " + n, -2, x.from(n));
            Due.is("run from " + n, -2, x.run(1, n, 0));
            Due.is("run to " + n, -2, x.run(1, 0, n));
            Due.is("plain from " + n, -2, x.plain(1, n, 0));
            Due.is("plain to " + n, -2, x.plain(1, 0, n));
        }
        Due.is("a triple from -1", -2, x.triple(-1, 0, 0));
        Due.is("a triple to -1", -2, x.triple(0, 0, -1));
        Due.is("from -1", -2, x.from(-1));
        for (int n = 0; n < 32; n++) {
            Due.is("a triple of " + n, 3 + n, x.triple(n, 1, n));
        }
    }

    private static void predicates() {
        Due.sentence("PREDICATES 0 .. 15");
        PathSteps x = new PathSteps();
        for (int p = 0; p < 16; p++) {
            Due.is("a triple of " + p, p + 1, x.triple(0, p, 1));
            Due.is("a path of " + p, p + 1, x.path(0, p, 0));
        }
        Due.is("all but the first", 17, x.negated(0, -1));
        Due.is("all but the last", 18, x.negated(15, -1));
        Due.is("all but the first and the last", 19, x.negated(0, 15));
        Due.is("all but the last and the first", 20, x.negated(15, 0));
        for (int p = 0; p < 16; p++) {
            Due.is("the path of " + p, 1, x.plain(p + 1, 0, 1));
        }
        // 32 and LOW would be PREDICATE 0 again in a mask or a shift.
        int[] none = {-2, 16, 17, 31, 32, LOW, HIGH};
        for (int p : none) {
            Due.is("a triple of " + p, -2, x.triple(0, p, 0));
            Due.is("a path of " + p, -2, x.path(0, p, 0));
            Due.is("all but " + p, -2, x.negated(p, -1));
            Due.is("all but 0 and " + p, -2, x.negated(0, p));
        }
        Due.is("a triple of -1", -2, x.triple(0, -1, 0));
        Due.is("a path of -1", -2, x.path(0, -1, 0));
        Due.is("all but -1", -2, x.negated(-1, 0));
    }

    private static void triplesAtMost() {
        Due.sentence("TRIPLES, at most 150");
        PathSteps x = new PathSteps();
        for (int n = 0; n < 150; n++) {
            Due.is("triple " + (n + 1), n + 1, x.triple(n % 32, n / 32, 7));
        }
        Due.is("triple 151", -4, x.triple(9, 9, 9));
        x.negated(15, -1);
        Due.is("all of them", 150, x.run(1, -1, -1));
        Due.is("those to 9", 0, x.run(1, -1, 9));
    }

    private static void triplesEachOnce() {
        Due.sentence("join a NODE by a PREDICATE to a NODE, each once");
        PathSteps x = new PathSteps();
        Due.is("one", 1, x.triple(3, 4, 5));
        Due.is("it again", 1, x.triple(3, 4, 5));
        Due.is("and again", 1, x.triple(3, 4, 5));
        x.path(0, 4, 0);
        x.negated(0, -1);
        Due.is("by its predicate", 1, x.plain(1, -1, -1));
        Due.is("by all but another", 1, x.plain(2, -1, -1));
        Due.is("from its node", 1, x.from(3));
        Due.is("another first node", 2, x.triple(5, 4, 5));
        Due.is("another predicate", 3, x.triple(3, 5, 5));
        Due.is("another last node", 4, x.triple(3, 4, 3));
        Due.is("turned round", 5, x.triple(5, 4, 3));
    }

    private static void pathsAtMost() {
        Due.sentence("PATHS, at most 40");
        PathSteps x = new PathSteps();
        x.triple(0, 0, 0);
        for (int n = 1; n < 40; n++) {
            Due.is("path " + n, n, x.path(0, 0, 0));
        }
        Due.is("path 40", 40, x.path(3, 39, 1));
        Due.is("path 41", -4, x.path(0, 0, 0));
        Due.is("path 41, an inverse", -4, x.inverse(40));
        Due.is("path 41, a negated one", -4, x.negated(0, -1));
        Due.is("a run of 40", 2, x.run(40, -1, -1));
        Due.is("a run of 41", -1, x.run(41, -1, -1));
    }

    private static void pathsFromOneOn() {
        Due.sentence("are numbered from 1 on");
        PathSteps x = new PathSteps();
        Due.is("the first", 1, x.path(0, 3, 0));
        Due.is("an inverse", 2, x.inverse(1));
        Due.is("a negated one", 3, x.negated(3, -1));
        Due.is("one of two", 4, x.path(2, 3, 2));
        // 65 would be 1 again in a shift.
        int[] none = {0, -1, 5, 40, 41, 64, 65, LOW, HIGH};
        for (int n : none) {
            Due.is("run of " + n, -1, x.run(n, -1, -1));
            Due.is("plain of " + n, -1, x.plain(n, -1, -1));
            Due.is("inverse of " + n, -1, x.inverse(n));
            Due.is("path of " + n, -1, x.path(4, n, 0));
            Due.is("path behind " + n, -1, x.path(2, n, 1));
            Due.is("path before " + n, -1, x.path(2, 1, n));
        }
        Due.is("the next", 5, x.path(0, 3, 0));

        PathSteps inverted = new PathSteps();
        Due.is("inverse before there is a path", -1, inverted.inverse(1));
        Due.is("the first, a negated one", 1, inverted.negated(0, -1));
    }

    private static void pathsOfEarlierOnes() {
        Due.sentence("those that are made of others are made of earlier ones");
        PathSteps x = new PathSteps();
        x.path(0, 0, 0);
        for (int kind = 1; kind <= 6; kind++) {
            Due.is("kind " + kind + " of itself", -1, x.path(kind, 2, 1));
        }
        Due.is("kind 2, itself behind", -1, x.path(2, 1, 2));
        Due.is("kind 3, or itself", -1, x.path(3, 1, 2));
        Due.is("inverse of itself", -1, x.inverse(2));
        Due.is("of the one before", 2, x.path(2, 1, 1));
        Due.is("of that one", 3, x.path(2, 2, 1));
        Due.is("of that one too", 4, x.inverse(3));
    }

    /** PATHS 10 to 14 join 0 to itself some million times, if nothing stopped them. */
    private static PathSteps aboutAMillion() {
        PathSteps x = Given.upTo1000();
        x.path(3, 4, 1);     // 9: 1001
        x.path(2, 8, 9);     // 10: 999,999
        x.path(3, 10, 1);    // 11: 1,000,000
        x.path(3, 11, 1);    // 12: 1,000,001
        x.path(2, 4, 4);     // 13: 1,000,000
        x.path(2, 4, 9);     // 14: 1,001,000
        return x;
    }

    private static void timesAtMost() {
        Due.sentence("so and so often (TIMES, at most 1,000,000)");
        PathSteps x = aboutAMillion();
        Due.is("999 * 1001", 999999, x.plain(10, 0, 0));
        Due.is("999,999 + 1", 1000000, x.plain(11, 0, 0));
        Due.is("1,000,000 + 1", 1000000, x.plain(12, 0, 0));
        Due.is("1000 * 1000", 1000000, x.plain(13, 0, 0));
        Due.is("1000 * 1001", 1000000, x.plain(14, 0, 0));
        x.path(2, 14, 12);
        Due.is("a million times a million", 1000000, x.plain(15, 0, 0));
        x.path(3, 15, 14);
        Due.is("a million and a million", 1000000, x.plain(16, 0, 0));
        x.inverse(16);
        Due.is("the inverse of a million", 1000000, x.plain(17, 0, 0));
        for (int n = 15; n < 35; n++) {
            x.path(2, n, n);
        }
        Due.is("a million, squared on and on", 1000000, x.plain(37, 0, 0));
        x.path(5, 37, 0);
        Due.is("one or more of it", 1, x.plain(38, 0, 0));
    }

    private static void timesAtMostForEachPair() {
        Due.sentence("A PATH joins each pair of NODES (x, y) so and so often (TIMES, at most 1,000,000)");
        PathSteps x = aboutAMillion();
        x.triple(0, 15, 1);
        x.path(0, 15, 0);
        x.path(2, 14, 15);
        x.path(3, 14, 16);
        Due.is("two pairs, a million each", 2000000, x.plain(17, -1, -1));
        Due.is("the one", 1000000, x.plain(17, 0, 0));
        Due.is("the other", 1000000, x.plain(17, 0, 1));

        PathSteps all = Given.round(32);
        all.path(5, 1, 0);
        for (int n = 2; n < 30; n++) {
            all.path(2, n, n);
        }
        Due.is("all pairs, a million each", 1024000000, all.plain(30, -1, -1));
    }

    private static void timesAtMostOfASum() {
        Due.sentence("(TIMES, at most 1,000,000): .. 2, a behind which b: the sum, over all NODES z");
        // 0 and 1 have ten loops each; 0 -14-> 0 and 1, which -15-> 2: so both are between 0 and 2.
        PathSteps x = new PathSteps();
        for (int p = 0; p < 10; p++) {
            x.triple(0, p, 0);
            x.triple(1, p, 1);
        }
        x.triple(0, 14, 0);
        x.triple(0, 14, 1);
        x.triple(0, 15, 2);
        x.triple(1, 15, 2);
        x.negated(14, 15);   // 1: 10
        x.path(2, 1, 1);     // 2: 100
        x.path(2, 2, 1);     // 3: 1000
        x.path(3, 2, 2);     // 4: 200
        x.path(3, 4, 4);     // 5: 400
        x.path(3, 5, 2);     // 6: 500
        x.path(0, 0, 0);     // 7: 1
        x.path(3, 6, 7);     // 8: 501
        x.path(0, 14, 0);
        x.path(0, 15, 0);
        x.path(2, 9, 3);     // 11: 1000 from 0 to 0, and to 1
        x.path(2, 6, 10);    // 12: 500 from 0, and from 1, to 2
        x.path(2, 8, 10);    // 13: 501 from 0, and from 1, to 2
        x.path(2, 11, 12);
        x.path(2, 11, 13);
        Due.is("500,000 by each of two", 1000000, x.plain(14, 0, 2));
        Due.is("501,000 by each of two", 1000000, x.plain(15, 0, 2));
        x.path(2, 11, 10);
        Due.is("1000 by each of two", 2000, x.plain(16, 0, 2));
    }

    private static void kind0() {
        Due.sentence("0, a PREDICATE a: once for such a TRIPLE");
        PathSteps x = new PathSteps();
        x.path(0, 3, 0);
        Due.is("no triples", 0, x.run(1, -1, -1));
        x.triple(0, 3, 31);
        x.triple(0, 4, 31);
        x.triple(0, 2, 31);
        x.triple(5, 3, 5);
        Due.is("two of four triples", 2, x.run(1, -1, -1));
        Due.rows("two of four triples", "0-31:1 5-5:1", x);
        Due.is("the other way", 0, x.run(1, 31, 0));
    }

    private static void kind1() {
        Due.sentence("1, the inverse of PATH a: as often as a joins (y, x)");
        PathSteps x = new PathSteps();
        x.triple(0, 0, 31);
        x.triple(0, 1, 31);
        x.triple(7, 0, 7);
        x.negated(15, -1);
        x.path(1, 1, 0);
        Due.is("not at all", 0, x.run(2, 0, 31));
        Due.is("twice", 2, x.run(2, 31, 0));
        Due.is("a node and itself", 1, x.run(2, 7, 7));
        Due.is("all", 3, x.run(2, -1, -1));
        Due.rows("all", "7-7:1 31-0:1 31-0:1", x);
    }

    private static void kind2() {
        Due.sentence("the sum, over all NODES z, of how often a joins (x, z) times how often b joins (z, y)");
        PathSteps x = new PathSteps();
        for (int z = 0; z < 32; z++) {
            x.triple(5, 0, z);
            x.triple(z, 1, 9);
        }
        x.path(0, 0, 0);
        x.path(0, 1, 0);
        x.path(2, 1, 2);
        x.path(2, 2, 1);
        Due.is("over all 32 between", 32, x.plain(3, 5, 9));
        Due.is("no other pair", 32, x.plain(3, -1, -1));
        Due.is("b behind which a, over none", 0, x.plain(4, 9, 5));

        PathSteps ring = Given.ring();
        ring.triple(0, 3, 1);
        ring.triple(0, 4, 1);
        ring.triple(1, 3, 2);
        ring.negated(15, -1);
        ring.path(2, 3, 3);
        Due.is("three times two", 6, ring.plain(4, 0, 2));
        Due.is("three times none", 0, ring.plain(4, 0, 1));
        Due.is("three times one", 3, ring.plain(4, 0, 3));
    }

    private static void kind3() {
        Due.sentence("3, either one: both together");
        PathSteps x = Given.ring();
        x.path(3, 1, 2);
        Due.is("each joins others", 4, x.run(3, -1, -1));
        Due.rows("each joins others", "0-1:1 1-2:1 1-3:1 2-0:1", x);
        x.path(3, 1, 1);
        Due.is("one path twice", 2, x.run(4, 0, 1));
        x.path(0, 9, 0);
        x.path(3, 5, 1);
        Due.is("nothing or a path", 3, x.run(6, -1, -1));
        x.path(3, 1, 5);
        Due.is("a path or nothing", 3, x.run(7, -1, -1));
        x.path(3, 5, 5);
        Due.is("nothing or nothing", 0, x.run(8, -1, -1));
    }

    private static void kind4Itself() {
        Due.sentence("4, none or more: once, if y is x and x is in the GRAPH");
        PathSteps x = new PathSteps();
        x.path(0, 0, 0);
        x.path(4, 1, 0);
        Due.is("an empty graph", 0, x.run(2, -1, -1));
        x.triple(3, 5, 31);
        Due.is("both ends of a triple of another predicate", 2, x.run(2, -1, -1));
        Due.rows("both ends of a triple of another predicate", "3-3:0 31-31:0", x);
        x.triple(3, 0, 3);
        Due.is("once, though a link joins it too", 1, x.run(2, 3, 3));
        Due.is("not in the graph, from the graph", 0, x.run(2, 3, 4));
    }

    private static void kind4ComeTo() {
        Due.sentence("or y is come to from x by one a behind another");
        PathSteps x = Given.chain(31);
        x.path(4, 1, 0);
        Due.is("by the longest way, 31 links", 1, x.run(2, 0, 31));
        Due.is("not back", 0, x.run(2, 31, 0));
        Due.is("by one link", 1, x.run(2, 30, 31));
        Due.is("all", 32 * 33 / 2, x.run(2, -1, -1));

        // Against the order of the NODES, and by many ways.
        PathSteps down = new PathSteps();
        for (int n = 31; n > 0; n--) {
            down.triple(n, 0, n - 1);
        }
        down.path(0, 0, 0);
        down.path(4, 1, 0);
        Due.is("down by the longest way", 1, down.run(2, 31, 0));
        for (int n = 31; n > 1; n--) {
            down.triple(n, 0, n - 2);
        }
        Due.is("once, though many ways lead there", 1, down.plain(2, 31, 0));
        down.path(3, 1, 1);
        down.path(4, 3, 0);
        Due.is("once, though each step joins twice", 1, down.plain(4, 31, 0));
        Due.is("once by one step, though it joins twice", 1, down.plain(4, 31, 30));

        PathSteps round = Given.round(32);
        round.path(4, 1, 0);
        Due.is("all pairs of a round", 1024, round.run(2, -1, -1));
    }

    private static void kind5() {
        Due.sentence("5, one or more: once, if y is come to so by at least one");
        PathSteps x = Given.chain(31);
        x.path(5, 1, 0);
        Due.is("itself, by none", 0, x.run(2, 5, 5));
        Due.is("by one", 1, x.run(2, 5, 6));
        Due.is("by the longest way", 1, x.run(2, 0, 31));
        Due.is("all", 31 * 32 / 2, x.run(2, -1, -1));
        x.triple(31, 0, 0);
        Due.is("itself, by all 32", 1, x.run(2, 5, 5));
        Due.is("all of the round", 1024, x.run(2, -1, -1));

        PathSteps own = new PathSteps();
        own.triple(4, 0, 4);
        own.path(0, 0, 0);
        own.path(5, 1, 0);
        Due.is("itself, by one", 1, own.run(2, 4, 4));
        own.path(3, 1, 1);
        own.path(5, 3, 0);
        Due.is("once, though each step joins twice", 1, own.run(4, 4, 4));
    }

    private static void kind6() {
        Due.sentence("6, none or one: once, if y is x and in the GRAPH, or a joins them");
        PathSteps x = new PathSteps();
        x.path(0, 1, 0);
        x.path(6, 1, 0);
        Due.is("an empty graph", 0, x.run(2, -1, -1));
        x.triple(0, 1, 1);
        x.triple(1, 1, 2);
        x.triple(2, 9, 31);
        Due.is("each of the graph, and the links", 6, x.run(2, -1, -1));
        Due.rows("each of the graph, and the links", "0-0:0 0-1:1 1-1:0 1-2:1 2-2:0 31-31:0", x);
        Due.is("two links are too many", 0, x.run(2, 0, 2));
        x.triple(0, 1, 0);
        Due.is("once, though a link joins it too", 1, x.run(2, 0, 0));
        x.path(3, 1, 1);
        x.path(6, 3, 0);
        Due.is("once, though a joins them twice", 1, x.run(4, 0, 1));
    }

    private static void kind7() {
        Due.sentence("7, NEGATED: as many as there are TRIPLES from x to y of other PREDICATES than those one or two");
        PathSteps x = new PathSteps();
        for (int p = 0; p < 16; p++) {
            x.triple(0, p, 31);
        }
        x.triple(31, 4, 0);
        x.negated(0, -1);
        x.negated(15, -1);
        x.negated(0, 15);
        x.negated(4, 4);
        x.negated(4, -1);
        Due.is("all but the first", 15, x.run(1, 0, 31));
        Due.is("all but the last", 15, x.run(2, 0, 31));
        Due.is("all but the first and the last", 14, x.run(3, 0, 31));
        Due.is("all but one, told twice", 15, x.run(4, 0, 31));
        Due.is("none of others", 0, x.run(5, 31, 0));
        Due.is("one of others", 1, x.run(3, 31, 0));
        Due.is("all pairs", 16, x.run(1, -1, -1));

        PathSteps two = new PathSteps();
        two.triple(1, 6, 2);
        two.triple(1, 7, 2);
        two.negated(6, 7);
        two.negated(7, -1);
        two.negated(8, 9);
        Due.is("both are those two", 0, two.run(1, -1, -1));
        Due.is("one is that one", 1, two.run(2, -1, -1));
        Due.is("neither is", 2, two.run(3, -1, -1));
        Due.rows("neither is", "1-2:1 1-2:1", two);
    }

    private static void graphOfTriples() {
        Due.sentence("THE GRAPH of a run: the NODES of all TRIPLES");
        PathSteps x = new PathSteps();
        x.path(0, 0, 0);
        x.path(4, 1, 0);
        x.path(6, 1, 0);
        Due.is("no triples, none or more", 0, x.plain(2, -1, -1));
        Due.is("no triples, none or one", 0, x.plain(3, -1, -1));
        x.triple(31, 15, 31);
        Due.is("one node", 1, x.plain(2, -1, -1));
        x.triple(0, 15, 1);
        Due.is("three nodes", 3, x.plain(2, -1, -1));
        Due.is("three nodes, none or one", 3, x.plain(3, -1, -1));
        for (int n = 0; n < 32; n++) {
            x.triple(n, 14, 0);
        }
        Due.is("all nodes", 32, x.plain(2, -1, -1));
    }

    private static void graphOfToldEnds() {
        Due.sentence("and those that the run tells as ends");
        PathSteps x = Given.ringWithWalks();
        Due.is("none or more from outside", 1, x.run(3, 20, -1));
        Due.rows("none or more from outside", "20-20:0", x);
        Due.is("none or more to outside", 1, x.run(3, -1, 31));
        Due.rows("none or more to outside", "31-31:0", x);
        Due.is("both ends, one node", 1, x.run(3, 20, 20));
        Due.is("both ends, two nodes", 0, x.run(3, 20, 21));
        Due.is("none or one from outside", 1, x.run(5, 20, -1));
        Due.is("an end that is in the triples", 3, x.run(3, 0, -1));
        Due.is("only the ends of that run", 10, x.run(3, -1, -1));
        Due.is("plain tells ends too", 1, x.plain(3, 20, -1));
        Due.is("plain tells the other end too", 1, x.plain(3, -1, 20));
        Due.is("only the ends of that plain", 10, x.plain(3, -1, -1));

        PathSteps inside = new PathSteps();
        inside.path(0, 0, 0);
        inside.path(4, 1, 0);
        inside.path(2, 2, 2);
        inside.inverse(3);
        inside.path(5, 4, 0);
        Due.is("the end of a run, inside its path", 1, inside.run(5, 0, -1));
        Due.is("the other end, inside its path", 1, inside.run(5, -1, 31));
        Due.is("no end, inside its path", 0, inside.run(5, -1, -1));
    }

    private static void onlyByTriples() {
        Due.sentence("(2, 7 and the others join other NODES only by TRIPLES, too.)");
        PathSteps x = Given.ring();
        x.path(1, 1, 0);
        x.path(2, 1, 1);
        x.path(3, 1, 2);
        x.path(5, 1, 0);
        x.negated(9, -1);
        for (int path = 1; path <= 7; path++) {
            Due.is("path " + path + ", a told node and itself", 0, x.run(path, 20, 20));
            Due.is("path " + path + ", from a told node", 0, x.run(path, 20, -1));
            Due.is("path " + path + ", to a told node", 0, x.run(path, -1, 20));
            Due.is("path " + path + ", plain", 0, x.plain(path, 20, 20));
        }
        x.path(4, 1, 0);
        x.path(6, 1, 0);
        for (int path = 8; path <= 9; path++) {
            Due.is("path " + path + ", from a told node to others", 0, x.run(path, 20, 0));
            Due.is("path " + path + ", from others to a told node", 0, x.run(path, 0, 20));
        }
    }

    private static void endsTold() {
        Due.sentence("A RUN of a PATH, with an end told, both or none (-1)");
        PathSteps x = Given.ring();
        x.path(5, 1, 0);
        Due.is("none", 9, x.run(3, -1, -1));
        Due.is("the first", 3, x.run(3, 1, -1));
        Due.rows("the first", "1-0:2 1-1:3 1-2:1", x);
        Due.is("the other", 3, x.run(3, -1, 1));
        Due.rows("the other", "0-1:1 1-1:3 2-1:2", x);
        Due.is("both", 1, x.run(3, 2, 1));
        Due.rows("both", "2-1:2", x);
        Due.is("both, the first node", 1, x.run(3, 0, 0));
        Due.rows("both, the first node", "0-0:3", x);
        Due.is("both, not joined", 0, x.run(3, 2, 3));
        Due.rows("both, not joined", "", x);
    }

    private static void rowsByXThenByY() {
        Due.sentence("its ROWS are all pairs with these ends, .. by x, then by y");
        PathSteps x = new PathSteps();
        x.triple(31, 0, 31);
        x.triple(31, 0, 0);
        x.triple(2, 0, 30);
        x.triple(0, 0, 31);
        x.triple(2, 0, 3);
        x.triple(0, 0, 0);
        x.path(0, 0, 0);
        Due.is("all", 6, x.run(1, -1, -1));
        Due.rows("all", "0-0:1 0-31:1 2-3:1 2-30:1 31-0:1 31-31:1", x);
        Due.is("from the last", 2, x.run(1, 31, -1));
        Due.rows("from the last", "31-0:1 31-31:1", x);
        Due.is("to the last", 2, x.run(1, -1, 31));
        Due.rows("to the last", "0-31:1 31-31:1", x);
    }

    private static void rowsAsOftenAsJoined() {
        Due.sentence("each as often as it is joined");
        PathSteps x = new PathSteps();
        x.triple(4, 0, 5);
        x.triple(4, 1, 6);
        x.triple(4, 2, 5);
        x.triple(4, 3, 5);
        x.triple(3, 0, 9);
        x.negated(15, -1);
        Due.is("one pair three times", 5, x.run(1, -1, -1));
        Due.rows("one pair three times", "3-9:1 4-5:1 4-5:1 4-5:1 4-6:1", x);
        Due.is("that pair alone", 3, x.run(1, 4, 5));
        Due.rows("that pair alone", "4-5:1 4-5:1 4-5:1", x);
        Due.is("a pair that is joined no time", 0, x.run(1, 5, 4));
    }

    private static void beyondMoreThanMost() {
        Due.sentence("It goes BEYOND if .. joins more pairs than MOST");
        PathSteps x = Given.ringWithWalks();
        x.steps(11);
        Due.is("10 pairs, most 11", 10, x.run(3, -1, -1));
        x.steps(10);
        Due.is("10 pairs, most 10", 10, x.run(3, -1, -1));
        x.steps(9);
        Due.is("10 pairs, most 9", -5, x.run(3, -1, -1));
        Due.is("10 pairs, though one has these ends", -5, x.run(3, 0, 1));
        Due.is("10 pairs, though none has these ends", -5, x.run(3, 3, 0));

        PathSteps one = new PathSteps();
        one.triple(6, 0, 6);
        one.path(0, 0, 0);
        one.path(5, 1, 0);
        one.steps(1);
        Due.is("1 pair, most 1", 1, one.run(2, -1, -1));
        one.triple(7, 0, 7);
        Due.is("2 pairs, most 1", -5, one.run(2, -1, -1));

        PathSteps none = Given.chain(3);
        none.path(0, 9, 0);
        none.path(5, 2, 0);
        none.steps(1);
        Due.is("no pairs, most 1", 0, none.run(3, -1, -1));
    }

    private static void beyondOfKind4Or5() {
        Due.sentence("some PATH of KIND 4 or 5");
        PathSteps x = Given.ringWithWalks();
        x.inverse(1);
        x.path(2, 1, 1);
        x.path(3, 1, 2);
        x.negated(9, -1);
        x.steps(9);
        Due.is("kind 4, 10 pairs, most 9", -5, x.run(3, -1, -1));
        Due.is("kind 5, 9 pairs, most 9", 9, x.run(4, -1, -1));
        x.steps(8);
        Due.is("kind 5, 9 pairs, most 8", -5, x.run(4, -1, -1));
        x.steps(1);
        Due.is("kind 0, 3 pairs, most 1", 3, x.run(1, -1, -1));
        Due.is("kind 6, 7 pairs, most 1", 7, x.run(5, -1, -1));
        Due.is("kind 1, 3 pairs, most 1", 3, x.run(6, -1, -1));
        Due.is("kind 2, 3 pairs, most 1", 3, x.run(7, -1, -1));
        Due.is("kind 3, 4 pairs, most 1", 4, x.run(8, -1, -1));
        Due.is("kind 7, 4 pairs, most 1", 4, x.run(9, -1, -1));
    }

    private static void beyondInWhatItIsMadeOf() {
        Due.sentence("of which it is made (or itself)");
        // PATH 3 joins 9 pairs; PATHS 4 to 9 are made of it, 10 is not.
        PathSteps x = Given.ring();
        x.path(5, 1, 0);
        x.path(2, 2, 3);
        x.path(2, 3, 2);
        x.path(3, 2, 3);
        x.inverse(4);
        x.path(6, 7, 0);
        x.path(4, 4, 0);
        x.path(4, 2, 0);
        x.steps(8);
        Due.is("itself", -5, x.run(3, -1, -1));
        Due.is("its b, that joins nothing behind a", -5, x.run(4, -1, -1));
        Due.is("its a", -5, x.run(5, -1, -1));
        Due.is("either one", -5, x.run(6, -1, -1));
        Due.is("a part of its inner one", -5, x.run(7, -1, -1));
        Due.is("a part, three deep", -5, x.run(8, -1, -1));
        Due.is("a part of a walk that is not beyond", -5, x.run(9, -1, -1));
        Due.is("an earlier one that is no part", 5, x.run(10, -1, -1));
        x.steps(9);
        Due.is("itself, just most", 9, x.run(3, -1, -1));
        Due.is("its b, just most", 0, x.run(4, -1, -1));
        Due.is("its a, just most", 3, x.run(5, -1, -1));
        Due.is("three deep, just most", 4, x.run(8, -1, -1));

        PathSteps far = Given.ring();
        far.path(5, 1, 0);
        for (int n = 3; n < 40; n++) {
            far.path(n % 2 == 0 ? 1 : 6, n, 0);
        }
        far.steps(8);
        Due.is("a part, 37 deep", -5, far.run(40, -1, -1));
        far.steps(9);
        Due.is("a part, 37 deep, just most", 10, far.run(40, -1, -1));
    }

    private static void beyondInTheGraphOfTheRun() {
        Due.sentence("THE GRAPH of a run: .. It goes BEYOND if some PATH .. joins more pairs than MOST");
        PathSteps x = Given.ringWithWalks();
        x.steps(10);
        Due.is("no told end", 10, x.run(3, -1, -1));
        Due.is("a told end that is there", 1, x.run(3, 3, -1));
        Due.is("a told end makes one more", -5, x.run(3, 20, -1));
        Due.is("the other end makes one more", -5, x.run(3, -1, 20));
        x.steps(11);
        Due.is("one more, just most", 1, x.run(3, 20, -1));
        Due.is("one end told twice", 1, x.run(3, 20, 20));
        Due.is("two told ends make two more", -5, x.run(3, 20, 21));
        x.steps(9);
        Due.is("one or more has none for a told end", 0, x.run(4, 20, 21));
    }
}
