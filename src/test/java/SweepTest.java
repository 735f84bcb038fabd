import java.util.ArrayList;
import java.util.List;

/**
 * Every call with every number at or beside a bound of the document, in states that stand at an edge, on the program
 * and on the model: the answers must be the same, and what can be seen behind them.
 */
public final class SweepTest {
    private static final int[] NUMBERS = {Integer.MIN_VALUE, Integer.MIN_VALUE + 1, -65536, -256, -21, -11, -10, -9, -8,
        -5, -4, -3, -2, -1, 0, 1, 2, 3, 4, 5, 6, 7, 8, 9, 10, 11, 13, 14, 15, 16, 19, 20, 21, 31, 32, 33, 39, 40, 41, 64,
        98, 99, 100, 127, 128, 254, 255, 256, 257, 65536, Integer.MAX_VALUE - 1, Integer.MAX_VALUE};
    private static final String[] ASKING = {"about(#)", "step(#)", "back(#)", "changes(#)", "where(#,true)",
        "where(#,false)", "stage(#,$)", "off(#,$)", "ends(#,$)", "shows(#,$)", "rests(#,$)", "share(#,$,true)",
        "share(#,$,false)", "chance(#,$,true)", "chance(#,$,false)", "byBook()", "truly()", "soonest()", "fault()"};
    private static final String[] DOING = {"write(#)", "find(#)", "stretch(#)", "days(#)", "seed(#)", "keep(#)",
        "again(#)", "test(#,$)", "wipe()", "line()", "lay()", "lose()", "doubled()", "change()", "knot()", "clear()",
        "undo()", "untest()"};
    /** A new object is taken when one has been asked so often; playing a state takes fewer than 200 calls. */
    private static final int MOST_ASKED = 300;

    private static final Checks checks = new Checks();

    public static void main(String[] args) {
        List<String> asking = filled(ASKING);
        List<String> doing = filled(DOING);
        List<String> looks = looks();
        for (String state : RefusalsTest.STATES) {
            ask(state, asking);
            for (String call : doing) {
                act(state, call, looks);
            }
        }
        checks.finish("SweepTest");
    }

    private static List<String> filled(String[] calls) {
        List<String> filled = new ArrayList<>();
        for (String call : calls) {
            for (int first : call.contains("#") ? NUMBERS : new int[] {0}) {
                for (int second : call.contains("$") ? NUMBERS : new int[] {0}) {
                    filled.add(call.replace("#", Integer.toString(first)).replace("$", Integer.toString(second)));
                }
            }
        }
        return filled;
    }

    private static List<String> looks() {
        List<String> looks = new ArrayList<>();
        for (int what = 0; what <= 14; what++) {
            looks.add("about(" + what + ")");
        }
        for (int stage = 0; stage < 8; stage++) {
            looks.add("stage(" + stage + ",3)");
            looks.add("stage(" + stage + ",4)");
        }
        looks.addAll(List.of("byBook()", "truly()", "fault()", "changes(0)", "changes(1)", "changes(2)", "undo()",
            "about(10)", "byBook()", "truly()", "again(0)", "byBook()", "truly()", "again(1)", "byBook()", "truly()",
            "seed(0)"));
        return looks;
    }

    private static void ask(String state, List<String> asking) {
        TenArrows program = null;
        Model model = null;
        for (int i = 0; i < asking.size(); i++) {
            if (i % MOST_ASKED == 0) {
                program = Script.played(state);
                model = new Model();
                Script.play(model, state);
            }
            same(state, asking.get(i), program, model);
        }
    }

    private static void act(String state, String call, List<String> looks) {
        TenArrows program = Script.played(state);
        Model model = new Model();
        Script.play(model, state);
        same(state, call, program, model);
        for (String look : looks) {
            same(state + call + " ", look, program, model);
        }
    }

    private static void same(String behind, String call, TenArrows program, Model model) {
        checks.due(behind + ".. " + call, Script.call(model, call), Script.call(program, call));
    }
}
