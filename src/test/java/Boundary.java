import java.util.ArrayList;
import java.util.List;

/** Tests of which each stands for one sentence of the document. */
abstract class Boundary extends Calls {
    static final String WHAT_IT_IS = "## What it is";
    static final String TERMS = "## Terms";
    static final String RULES = "==== 2.";
    static final String WHAT_WOULD_BE = "==== 3.";
    static final int MIN = Integer.MIN_VALUE;
    static final int MAX = Integer.MAX_VALUE;

    private static final List<String> WRONG = new ArrayList<>();

    /** The answers that were not as due since the last time this was asked. */
    static List<String> takeWrong() {
        List<String> wrong = new ArrayList<>(WRONG);
        WRONG.clear();
        return wrong;
    }

    static void due(String call, long got, long want) {
        if (got != want) {
            WRONG.add(call + " answered " + got + ", due is " + want);
        }
    }

    static void due(String call, boolean got, boolean want) {
        due(call, got ? 1 : 0, want ? 1 : 0);
    }

    static void due(String call, String got, String want) {
        if (!got.equals(want)) {
            WRONG.add(call + " is '" + got + "', due is '" + want + "'");
        }
    }
}
