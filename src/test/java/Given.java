/** Objects that several tests begin with. */
final class Given {
    private Given() {
    }

    /** 0 -1-> 1 -1-> 2 -1-> 0 and 1 -2-> 3, with PATH 1 the PREDICATE 1 and PATH 2 the PREDICATE 2. */
    static PathSteps ring() {
        PathSteps x = new PathSteps();
        x.triple(0, 1, 1);
        x.triple(1, 1, 2);
        x.triple(2, 1, 0);
        x.triple(1, 2, 3);
        x.path(0, 1, 0);
        x.path(0, 2, 0);
        return x;
    }

    /** The ring, with PATHS 3, 4 and 5 of KINDS 4, 5 and 6 over PATH 1: they join 10, 9 and 7 pairs. */
    static PathSteps ringWithWalks() {
        PathSteps x = ring();
        x.path(4, 1, 0);
        x.path(5, 1, 0);
        x.path(6, 1, 0);
        return x;
    }

    /** 0 -0-> 1 -0-> .. -0-> last, with PATH 1 the PREDICATE 0. */
    static PathSteps chain(int last) {
        PathSteps x = new PathSteps();
        for (int n = 0; n < last; n++) {
            x.triple(n, 0, n + 1);
        }
        x.path(0, 0, 0);
        return x;
    }

    /** The chain, led back from its last NODE to 0. */
    static PathSteps round(int nodes) {
        PathSteps x = chain(nodes - 1);
        x.triple(nodes - 1, 0, 0);
        return x;
    }

    /** Node 0 is joined to itself by PREDICATES 0 .. count - 1; PATH 1 is the PREDICATE 0. */
    static PathSteps loops(int count) {
        PathSteps x = new PathSteps();
        for (int p = 0; p < count; p++) {
            x.triple(0, p, 0);
        }
        x.path(0, 0, 0);
        return x;
    }

    /** PATHS 1 to 8 join 0 to itself 1, 10, 100, 1000, 9, 110, 111 and 999 times. */
    static PathSteps upTo1000() {
        PathSteps x = loops(10);
        x.negated(15, -1);
        x.path(2, 2, 2);
        x.path(2, 3, 2);
        x.negated(15, 0);
        x.path(3, 3, 2);
        x.path(3, 6, 1);
        x.path(2, 5, 7);
        return x;
    }

    /** These, with PATHS 9, 10 and 11 for 1999, 2000 and 2001 times. */
    static PathSteps about2000() {
        PathSteps x = upTo1000();
        x.path(3, 8, 4);
        x.path(3, 9, 1);
        x.path(3, 10, 1);
        return x;
    }

    /** 150 TRIPLES, to NODE 7, by PREDICATES 0 .. 4. */
    static PathSteps triples150() {
        PathSteps x = new PathSteps();
        for (int n = 0; n < 150; n++) {
            x.triple(n % 32, n / 32, 7);
        }
        return x;
    }

    /** 40 PATHS, each a PREDICATE. */
    static PathSteps paths40() {
        PathSteps x = new PathSteps();
        for (int n = 0; n < 40; n++) {
            x.path(0, n % 16, 0);
        }
        return x;
    }
}
