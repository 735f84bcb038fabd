import java.util.ArrayList;
import java.util.List;

/**
 * Looks at all that can be seen of an object. Undoing, going on from SLOTS and making THE LINE anew change it, so each
 * of these looks at a new object that the same script made.
 */
final class Probe {
    private static final String[] LOOKS = {
        "", "undo", "again(0)", "again(1)", "line()", "days(20)", "write(76)", "test(3,3)", "untest()"};

    private Probe() { }

    /** All answers of all looks behind a script, one a line. */
    static List<String> allBehind(String script) {
        List<String> seen = new ArrayList<>();
        for (String look : LOOKS) {
            TenArrows x = Script.played(script);
            seen.add("look: " + look);
            if (look.equals("undo")) {
                undoAll(x, seen);
            } else {
                if (!look.isEmpty()) {
                    seen.add(look + " = " + Script.call(x, look));
                }
                seen.addAll(now(x));
            }
        }
        return seen;
    }

    /** What can be seen without a change; THE SEED is put back. */
    static List<String> now(TenArrows x) {
        List<String> seen = new ArrayList<>();
        for (int what = 0; what <= 14; what++) {
            seen.add("about(" + what + ") = " + x.about(what));
        }
        for (int stage = 0; stage < 8; stage++) {
            for (int what = 0; what <= 4; what++) {
                seen.add("stage(" + stage + ", " + what + ") = " + x.stage(stage, what));
            }
        }
        seen.add("byBook = " + x.byBook());
        seen.add("truly = " + x.truly());
        seen.add("fault = " + x.fault());
        for (int what = 0; what <= 2; what++) {
            seen.add("changes(" + what + ") = " + x.changes(what));
        }
        long seed = x.seed(0);
        x.seed(seed);
        seen.add("seed = " + seed);
        return seen;
    }

    static void sameNow(String when, TenArrows one, TenArrows other) {
        Edges.isTrue(when, now(one).equals(now(other)));
    }

    /** Which line of what was seen is the first that differs; empty: none. */
    static String firstOther(List<String> before, List<String> behind) {
        for (int i = 0; i < before.size() && i < behind.size(); i++) {
            if (!before.get(i).equals(behind.get(i))) {
                return before.get(i) + " became " + behind.get(i);
            }
        }
        return before.size() == behind.size() ? "" : "more or fewer answers";
    }

    private static void undoAll(TenArrows x, List<String> seen) {
        for (int left = x.undo(); left >= 0; left = x.undo()) {
            seen.add("undo = " + left);
            for (int what = 2; what <= 9; what++) {
                seen.add("about(" + what + ") = " + x.about(what));
            }
            for (int stage = 0; stage < 8; stage++) {
                seen.add("stage(" + stage + ", 3) = " + x.stage(stage, 3));
            }
        }
    }
}
