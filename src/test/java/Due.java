/** What the tests share: the sentence at hand, and what of it is not as due. */
final class Due {
    static final int LOW = Integer.MIN_VALUE;
    static final int HIGH = Integer.MAX_VALUE;

    private static String sentence = "";
    private static int sentences = 0;
    private static int answers = 0;
    private static int wrong = 0;

    private Due() {
    }

    /** Runs one sentence's test; what it lets through is told with its sentence, and the next one runs. */
    static void test(Runnable test) {
        try {
            test.run();
        } catch (RuntimeException e) {
            same("a call", "no exception", e.toString());
        }
    }

    /** The document's words that all checks up to the next sentence belong to. */
    static void sentence(String words) {
        sentence = words;
        sentences++;
    }

    static void is(String call, long want, long got) {
        same(call, Long.toString(want), Long.toString(got));
    }

    static void is(String call, boolean want, boolean got) {
        same(call, Boolean.toString(want), Boolean.toString(got));
    }

    /** The rows as "x-y:depth", in their order. */
    static void rows(String call, String want, PathSteps x) {
        same("rows of " + call, want, rowsOf(x));
    }

    static void noSuchRow(String call, PathSteps x, int i) {
        same("depth, " + call, "ArrayIndexOutOfBoundsException", depthOf(x, i));
    }

    /** The depth as a text, or the name of what the call throws. */
    static String depthOf(PathSteps x, int i) {
        try {
            return Integer.toString(x.depth(i));
        } catch (RuntimeException e) {
            return e.getClass().getSimpleName();
        }
    }

    static String rowsOf(PathSteps x) {
        StringBuilder all = new StringBuilder();
        for (int i = 0; x.at(i, 0) >= 0; i++) {
            all.append(i == 0 ? "" : " ").append(x.at(i, 0)).append('-').append(x.at(i, 1));
            all.append(':').append(depthOf(x, i));
        }
        return all.toString();
    }

    static void same(String call, String want, String got) {
        answers++;
        if (!want.equals(got)) {
            wrong++;
            System.out.println("'" + sentence + "': " + call + " answered " + got + ", due is " + want);
        }
    }

    /** Tells the outcome; the exit code is 1 if an answer was not as due. */
    static void end() {
        System.out.println(sentences + " sentences, " + answers + " answers, " + wrong + " not as due");
        if (wrong != 0) {
            System.exit(1);
        }
    }
}
