import java.util.ArrayList;
import java.util.List;
import java.util.function.ToIntFunction;

/** 'REFUSALS change nothing': behind each refusal an object answers as its untouched twin does. */
public final class RefusalsTest {
    private static final int LOW = Due.LOW;
    private static final int HIGH = Due.HIGH;
    private static final List<Refusal> refusals = new ArrayList<>();

    private static final class Refusal {
        final String name;
        final int due;
        final ToIntFunction<PathSteps> call;

        Refusal(String name, int due, ToIntFunction<PathSteps> call) {
            this.name = name;
            this.due = due;
            this.call = call;
        }
    }

    public static void main(String[] args) {
        Due.test(RefusalsTest::changeNothing);
        Due.test(RefusalsTest::firstThatFits);
        Due.end();
    }

    private static void changeNothing() {
        Due.sentence("REFUSALS change nothing and answer .. -1 an unknown number, -2 outside a range, "
            + "-3 not in this state, -4 no room");
        unknownNumbers();
        outsideRanges();
        notInThisState();
        for (Refusal refusal : refusals) {
            changesNothing(refusal, fresh(false), fresh(false), "before a run");
        }
        refusals.removeIf(refusal -> refusal.due == -3);
        noSuchRows();
        beyond();
        for (Refusal refusal : refusals) {
            changesNothing(refusal, fresh(true), fresh(true), "behind a run");
        }
        refusals.clear();
        noRoom();
        for (Refusal refusal : refusals) {
            changesNothing(refusal, full(), full(), "full");
        }
    }

    private static void firstThatFits() {
        Due.sentence("REFUSALS .. answer, the first that fits");
        PathSteps x = full();
        Due.is("triple, -2 and -4", -2, x.triple(32, 0, 0));
        Due.is("path, -1 and -4", -1, x.path(2, 41, 1));
        Due.is("path, -1 and -4, b", -1, x.path(3, 1, 41));
        Due.is("path, -2 and -4", -2, x.path(0, 16, 0));
        Due.is("path, kind, -2 and -4", -2, x.path(7, 1, 1));
        Due.is("inverse, -1 and -4", -1, x.inverse(41));
        Due.is("negated, -2 and -4", -2, x.negated(16, 0));
        Due.is("run, -1 and -2", -1, x.run(41, 32, 32));
        Due.is("run, -2 and -4", -2, x.run(40, 32, -1));
        Due.is("plain, -1 and -2", -1, x.plain(41, -2, -2));
        Due.is("at, -2 and -1", -2, x.at(9999, 2));
        PathSteps notRun = fresh(false);
        Due.is("at, -2, -3 and -1", -2, notRun.at(-1, 2));
        Due.is("at, -3 and -1", -3, notRun.at(-1, 1));
        Due.is("run, -2 and -5", -2, notRun.run(3, -1, 32));
        Due.is("run, -1, -2 and none to be beyond", -1, notRun.run(7, -1, 32));
    }

    private static void refused(String name, int due, ToIntFunction<PathSteps> call) {
        refusals.add(new Refusal(name, due, call));
    }

    private static void changesNothing(Refusal refusal, PathSteps x, PathSteps twin, String state) {
        String name = refusal.name + ", " + state;
        Due.is(name, refusal.due, refusal.call.applyAsInt(x));
        Due.is(name + ", again", refusal.due, refusal.call.applyAsInt(x));
        Due.same("all that can be asked behind " + name, allAnswers(twin), allAnswers(x));
    }

    /** Six PATHS, of which PATH 3 joins 10 pairs and MOST lets 9 pass; PATH 5 has 7 ROWS. */
    private static PathSteps fresh(boolean wasRun) {
        PathSteps x = Given.ringWithWalks();
        x.negated(1, -1);
        x.steps(9);
        if (wasRun) {
            x.run(5, -1, -1);
        }
        return x;
    }

    /** 150 TRIPLES, 40 PATHS, of which PATH 40 has more than 2000 ROWS; PATH 2 was run. */
    private static PathSteps full() {
        PathSteps x = Given.triples150();
        x.path(0, 0, 0);
        x.path(0, 4, 0);
        x.path(3, 1, 1);
        for (int n = 3; n < 40; n++) {
            x.path(3, n, n);
        }
        x.run(2, -1, -1);
        return x;
    }

    private static void unknownNumbers() {
        int[] none = {0, -1, 7, LOW, HIGH};
        for (int n : none) {
            refused("run of path " + n, -1, x -> x.run(n, 0, 1));
            refused("plain of path " + n, -1, x -> x.plain(n, 0, 1));
            refused("inverse of path " + n, -1, x -> x.inverse(n));
            for (int kind = 1; kind <= 6; kind++) {
                int k = kind;
                refused("kind " + k + " of path " + n, -1, x -> x.path(k, n, 1));
            }
            refused("kind 2 before path " + n, -1, x -> x.path(2, 1, n));
            refused("kind 3 or path " + n, -1, x -> x.path(3, 1, n));
        }
    }

    private static void outsideRanges() {
        int[] none = {-2, 32, LOW, HIGH};
        for (int n : none) {
            refused("triple from " + n, -2, x -> x.triple(n, 0, 20));
            refused("triple by " + n, -2, x -> x.triple(20, n, 20));
            refused("triple to " + n, -2, x -> x.triple(20, 0, n));
            refused("path of kind " + n, -2, x -> x.path(n, 1, 1));
            refused("path of predicate " + n, -2, x -> x.path(0, n, 1));
            refused("from " + n, -2, x -> x.from(n));
            refused("run from " + n, -2, x -> x.run(1, n, -1));
            refused("run to " + n, -2, x -> x.run(1, -1, n));
            refused("at side " + n, -2, x -> x.at(0, n));
            refused("plain from " + n, -2, x -> x.plain(1, n, -1));
            refused("plain to " + n, -2, x -> x.plain(1, -1, n));
            refused("negated " + n, -2, x -> x.negated(n, -1));
            refused("negated 0 and " + n, -2, x -> x.negated(0, n));
        }
        int[] mosts = {0, -1, 1025, LOW, HIGH};
        for (int n : mosts) {
            refused("most " + n, -2, x -> x.steps(n));
        }
    }

    private static void notInThisState() {
        refused("at(0, 0)", -3, x -> x.at(0, 0));
        refused("at(-1, 1)", -3, x -> x.at(-1, 1));
    }

    private static void noSuchRows() {
        int[] none = {-1, 7, LOW, HIGH};
        for (int n : none) {
            refused("row " + n, -1, x -> x.at(n, 0));
            refused("depth of row " + n, -1, x -> {
                Due.noSuchRow("row " + n, x, n);
                return -1;
            });
            refused("cycle of row " + n, 0, x -> x.cycle(n) ? 1 : 0);
        }
    }

    private static void beyond() {
        refused("a run beyond", -5, x -> x.run(3, -1, -1));
        refused("a run beyond, with told ends", -5, x -> x.run(3, 20, 21));
    }

    private static void noRoom() {
        refused("triple 151", -4, x -> x.triple(31, 15, 31));
        for (int kind = 0; kind <= 6; kind++) {
            int k = kind;
            refused("path 41 of kind " + k, -4, x -> x.path(k, 1, 1));
        }
        refused("path 41, an inverse", -4, x -> x.inverse(1));
        refused("path 41, a negated one", -4, x -> x.negated(0, -1));
        refused("a run of more than 2000 rows", -4, x -> x.run(40, -1, -1));
    }

    /** Asks for all that an object holds; at its end the object is another one. */
    private static String allAnswers(PathSteps x) {
        StringBuilder all = new StringBuilder();
        for (int n = 0; n < 32; n++) {
            all.append(x.from(n)).append(' ');
        }
        all.append(x.at(0, 0)).append(" rows ").append(Due.rowsOf(x));
        for (int n = 1; n <= 40; n++) {
            all.append(' ').append(x.plain(n, -1, -1));
        }
        all.append(" runs");
        for (int n = 1; n <= 6; n++) {
            all.append(' ').append(x.run(n, -1, -1));
        }
        all.append(" next ").append(x.path(0, 0, 0)).append(' ').append(x.triple(30, 14, 29));
        return all.toString();
    }
}
