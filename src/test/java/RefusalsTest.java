import java.util.ArrayList;
import java.util.List;

/**
 * Every refusal of the document: its answer, that of several the one told first is answered, and that it changes
 * nothing, neither what can be seen at once nor what undo, SLOTS, THE TEXT, TESTS and THE SEED bring to light later.
 */
public final class RefusalsTest extends Edges {
    /** A call that is refused behind a script, and the words of the promise that refuse it. */
    record Refusal(int promise, String says, int answer, String script, String call) { }

    private static final String NEW = "";
    private static final String BARE = "'A35055' line() ";
    private static final String FRESH = "'A36274L003L152L234L319L146L002L117L129' line() ";
    private static final String MIDST = FRESH + "keep(0) lay() lose() lay() change() lay() stretch(2) keep(1) find(0) "
        + "test(2,1) test(5,3) seed(-77) ";
    private static final String END = FRESH + "keep(1) lay()*8 test(1,1) seed(5) ";
    private static final String SPENT = "'A25055L009L009L009' line() lay() lose() lay() lose() keep(0) ";
    /** All that can be full is full: bytes, TESTS, ACTS, KNOTS, STRETCH, both SLOTS. */
    private static final String CROWDED = "'A29964L001L102L203L304' line() lay() lose() lay() keep(0) lay() keep(1) "
        + "stretch(2) stretch(3) doubled()*5 change()*9 test(1,2)*3 test(3,-4)*3 seed(123456789) "
        + "write(76) write(49)*17 ";
    /** States that stand at an edge. */
    static final String[] STATES = {NEW, BARE, FRESH, MIDST, END, SPENT, CROWDED};
    private static final int[] FAR_OFF = {Integer.MIN_VALUE, -1000, 1000, Integer.MAX_VALUE};

    private final List<Refusal> all = new ArrayList<>();

    public static void main(String[] args) {
        List<Refusal> refusals = all();
        for (Refusal one : refusals) {
            check(one);
        }
        System.out.println(refusals.size() + " refusals");
        finish("RefusalsTest");
    }

    static List<Refusal> all() {
        RefusalsTest table = new RefusalsTest();
        table.ofTheLine();
        table.ofActs();
        table.ofStagesAhead();
        table.ofLostArrows();
        table.ofTestsAndChances();
        table.ofSlots();
        table.ofSeveralAtOnce();
        return table.all;
    }

    private static void check(Refusal one) {
        String told = "promise " + one.promise + ", '" + one.says + "', " + one.call + " behind " + one.script + ": ";
        TenArrows x = Script.played(one.script);
        due(told + "answer", one.answer, Script.call(x, one.call));
        due(told + "answer when asked again", one.answer, Script.call(x, one.call));
        String other = Probe.firstOther(Probe.allBehind(one.script), Probe.allBehind(one.script + " " + one.call));
        isTrue(told + "it changed something: " + other, other.isEmpty());
    }

    private void refuse(int promise, String says, int answer, String script, String... calls) {
        for (String call : calls) {
            all.add(new Refusal(promise, says, answer, script, call));
        }
    }

    private void refuseEverywhere(int promise, String says, int answer, String... calls) {
        for (String state : STATES) {
            refuse(promise, says, answer, state, calls);
        }
    }

    /** A call with each number far off in the place of the sign #. */
    private static String[] far(String call) {
        String[] calls = new String[FAR_OFF.length];
        for (int i = 0; i < calls.length; i++) {
            calls[i] = call.replace("#", Integer.toString(FAR_OFF[i]));
        }
        return calls;
    }

    private void ofTheLine() {
        String write = "BAD; FULL: there are 40.";
        refuseEverywhere(2, write, BAD, "write(-1)", "write(256)");
        refuseEverywhere(2, write, BAD, far("write(#)"));
        refuse(2, write, FULL, CROWDED, "write(0)", "write(65)", "write(255)");
        refuse(2, write, FULL, "write(65)*40", "write(65)");

        String line = "LATE: a FAULT.";
        refuse(5, line, LATE, NEW, "line()");
        refuse(5, line, LATE, MIDST + "wipe()", "line()");
        refuse(5, line, LATE, MIDST + "write(76)", "line()");
        refuse(5, line, LATE, MIDST + "'A15055'", "line()");
        refuse(5, line, LATE, END + "'A2505'", "line()");
        refuse(5, line, LATE, CROWDED, "line()");
        refuse(5, line, LATE, MIDST + "'A25055L000L000L000L000L000L000L000L000L0'", "line()");

        refuseEverywhere(6, "BAD.", BAD, "about(-1)", "about(15)");
        refuseEverywhere(6, "BAD.", BAD, far("about(#)"));

        refuseEverywhere(7, "UNKNOWN; BAD.", UNKNOWN, "stage(-1,0)", "stage(8,0)");
        refuseEverywhere(7, "UNKNOWN; BAD.", UNKNOWN, far("stage(#,0)"));
        refuse(7, "UNKNOWN; BAD.", UNKNOWN, BARE, "stage(0,0)");
        refuse(7, "UNKNOWN; BAD.", UNKNOWN, SPENT, "stage(3,0)");
        refuse(7, "UNKNOWN; BAD.", BAD, MIDST, "stage(0,-1)", "stage(7,5)");
        refuse(7, "UNKNOWN; BAD.", BAD, MIDST, far("stage(0,#)"));
    }

    private void ofActs() {
        String lay = "LATE: no STAGE is left, or no ARROW (in HAND, at the BACK).";
        refuse(10, lay, LATE, NEW, "lay()");
        refuse(10, lay, LATE, BARE + "doubled()", "lay()");
        refuse(10, lay, LATE, END, "lay()");
        refuse(10, lay, LATE, SPENT, "lay()");

        String lose = "LATE: nothing was laid, or that one is LOST.";
        refuse(11, lose, LATE, NEW, "lose()");
        refuse(11, lose, LATE, FRESH + "change()", "lose()");
        refuse(11, lose, LATE, SPENT, "lose()");
        refuse(11, lose, LATE, MIDST + "lose()", "lose()");

        String find = "UNKNOWN; LATE: it is not LOST.";
        refuseEverywhere(12, find, UNKNOWN, "find(-1)", "find(8)", "find(32)");
        refuseEverywhere(12, find, UNKNOWN, far("find(#)"));
        refuse(12, find, UNKNOWN, SPENT, "find(3)");
        refuse(12, find, LATE, SPENT, "find(2)");
        refuse(12, find, LATE, MIDST, "find(0)", "find(1)", "find(7)");

        String stretch = "BAD: d (-3 .. 3, not 0); LATE: it would be less than -9, more than 9.";
        refuseEverywhere(15, stretch, BAD, "stretch(0)", "stretch(-4)", "stretch(4)");
        refuseEverywhere(15, stretch, BAD, far("stretch(#)"));
        refuse(15, stretch, LATE, CROWDED, "stretch(1)", "stretch(2)", "stretch(3)");
        refuse(15, stretch, LATE, "stretch(-3)*3", "stretch(-1)", "stretch(-2)", "stretch(-3)");
        refuse(15, stretch, LATE, "stretch(-3)*2 stretch(-1)", "stretch(-3)");

        refuse(16, "FULL: there are 9.", FULL, CROWDED, "knot()");
        refuse(16, "FULL: there are 9.", FULL, "knot()*9", "knot()");
        refuse(17, "LATE: there are none.", LATE, NEW, "clear()");
        refuse(17, "LATE: there are none.", LATE, MIDST + "clear()", "clear()");
        refuse(18, "LATE: there is none.", LATE, NEW, "undo()");
        refuse(18, "LATE: there is none.", LATE, FRESH, "undo()");
        refuse(18, "LATE: there is none.", LATE, MIDST + "again(1)", "undo()");
        refuse(18, "LATE: there is none.", LATE, CROWDED + "undo()*14", "undo()");
    }

    private void ofStagesAhead() {
        String off = "BAD: n (0 .. STAGES AHEAD), plan (0 .. 255).";
        refuseEverywhere(19, off, BAD, "off(-1,0)", "off(9,0)", "off(0,-1)", "off(0,256)");
        refuseEverywhere(19, off, BAD, far("off(#,0)"));
        refuseEverywhere(19, off, BAD, far("off(0,#)"));
        refuse(19, off, BAD, MIDST, "off(6,0)");
        refuse(19, off, BAD, END, "off(1,0)");

        String ends = "BAD: n (0 .. STAGES AHEAD), what.";
        refuseEverywhere(20, ends, BAD, "ends(-1,0)", "ends(9,1)", "ends(0,-1)", "ends(0,2)");
        refuseEverywhere(20, ends, BAD, far("ends(#,0)"));
        refuseEverywhere(20, ends, BAD, far("ends(0,#)"));
        refuse(20, ends, BAD, MIDST, "ends(6,0)", "ends(5,2)");

        refuseEverywhere(21, "BAD: x.", BAD, "step(-1)", "step(100)");
        refuseEverywhere(21, "BAD: x.", BAD, far("step(#)"));

        String share = "UNKNOWN: source (0 .. 3); BAD: n (0 .. STAGES AHEAD).";
        refuseEverywhere(22, share, UNKNOWN, "share(-1,0,true)", "share(4,0,false)");
        refuseEverywhere(22, share, UNKNOWN, far("share(#,0,true)"));
        refuseEverywhere(22, share, BAD, "share(0,-1,true)", "share(3,9,false)");
        refuseEverywhere(22, share, BAD, far("share(1,#,false)"));
        refuse(22, share, BAD, MIDST, "share(2,6,true)");
    }

    private void ofLostArrows() {
        String where = "UNKNOWN: it is not laid; LATE: there is no GORSE on STAGES laid.";
        refuseEverywhere(23, where, UNKNOWN, "where(-1,true)", "where(8,false)");
        refuseEverywhere(23, where, UNKNOWN, far("where(#,true)"));
        refuse(23, where, UNKNOWN, MIDST, "where(3,true)", "where(7,false)");
        refuse(23, where, LATE, "'A25055L000L000L009' line() lay()*2", "where(0,true)", "where(1,false)");

        String back = "BAD: x; LATE: there is no GORSE on STAGES laid.";
        refuseEverywhere(24, back, BAD, "back(0)", "back(11)");
        refuseEverywhere(24, back, BAD, far("back(#)"));
        refuse(24, back, LATE, NEW, "back(1)");
        refuse(24, back, LATE, FRESH, "back(1)", "back(10)");
        refuse(24, back, LATE, "'A25055L000L000L009' line() lay()*2", "back(1)", "back(10)");

        String shows = "UNKNOWN: stage; BAD: m.";
        refuseEverywhere(25, shows, UNKNOWN, "shows(-1,2)", "shows(8,2)");
        refuseEverywhere(25, shows, UNKNOWN, far("shows(#,9)"));
        refuse(25, shows, UNKNOWN, SPENT, "shows(3,2)");
        refuse(25, shows, BAD, MIDST, "shows(0,1)", "shows(7,10)");
        refuse(25, shows, BAD, MIDST, far("shows(3,#)"));
    }

    private void ofTestsAndChances() {
        String test = "BAD: stage (0 .. 7), e; FULL: 6.";
        refuseEverywhere(27, test, BAD, "test(-1,0)", "test(8,0)", "test(0,-10)", "test(7,10)");
        refuseEverywhere(27, test, BAD, far("test(#,0)"));
        refuseEverywhere(27, test, BAD, far("test(0,#)"));
        refuse(27, test, FULL, CROWDED, "test(0,0)", "test(1,2)", "test(7,9)");

        refuseEverywhere(29, "NONE. BAD.", BAD, "changes(-1)", "changes(3)");
        refuseEverywhere(29, "NONE. BAD.", BAD, far("changes(#)"));

        String rests = "BAD: n (0 .. STAGES AHEAD), what.";
        refuseEverywhere(30, rests, BAD, "rests(-1,0)", "rests(9,1)", "rests(0,-1)", "rests(0,2)");
        refuseEverywhere(30, rests, BAD, far("rests(#,0)"));
        refuseEverywhere(30, rests, BAD, far("rests(0,#)"));
        refuse(30, rests, BAD, MIDST, "rests(6,0)");

        String chance = "BAD: n (1 .. 6, no more than STAGES AHEAD), m.";
        refuseEverywhere(31, chance, BAD, "chance(0,0,true)", "chance(7,0,true)", "chance(-1,0,false)");
        refuseEverywhere(31, chance, BAD, far("chance(#,0,true)"));
        refuse(31, chance, BAD, MIDST, "chance(6,0,true)", "chance(5,-1,true)", "chance(5,7,false)");
        refuse(31, chance, BAD, MIDST, far("chance(1,#,false)"));
        refuse(31, chance, BAD, END, "chance(1,0,true)");

        refuseEverywhere(33, "BAD: m.", BAD, "days(0)", "days(21)");
        refuseEverywhere(33, "BAD: m.", BAD, far("days(#)"));
    }

    private void ofSlots() {
        refuseEverywhere(34, "UNKNOWN.", UNKNOWN, "keep(-1)", "keep(2)", "keep(32)");
        refuseEverywhere(34, "UNKNOWN.", UNKNOWN, far("keep(#)"));

        String again = "UNKNOWN; LATE: none were kept.";
        refuseEverywhere(35, again, UNKNOWN, "again(-1)", "again(2)", "again(32)");
        refuseEverywhere(35, again, UNKNOWN, far("again(#)"));
        refuse(35, again, LATE, NEW, "again(0)", "again(1)");
        refuse(35, again, LATE, SPENT, "again(1)");
        refuse(35, again, LATE, END, "again(0)");
        refuse(35, again, LATE, MIDST + FRESH + "lay()", "again(0)", "again(1)");
    }

    /** Where more than one refusal could be answered, the one told first is. */
    private void ofSeveralAtOnce() {
        refuse(2, "BAD; FULL: there are 40.", BAD, "write(65)*40", "write(-1)", "write(256)");
        refuse(7, "UNKNOWN; BAD.", UNKNOWN, MIDST, "stage(8,5)", "stage(-1,-1)");
        refuse(12, "UNKNOWN; LATE: it is not LOST.", UNKNOWN, NEW, "find(0)");
        refuse(15, "BAD: d (-3 .. 3, not 0); LATE: it would be less than -9, more than 9.", BAD, "stretch(3)*3",
            "stretch(4)", "stretch(2147483647)");
        refuse(15, "BAD: d (-3 .. 3, not 0); LATE: it would be less than -9, more than 9.", BAD, "stretch(-3)*3",
            "stretch(-4)", "stretch(-2147483648)");
        refuse(22, "UNKNOWN: source (0 .. 3); BAD: n (0 .. STAGES AHEAD).", UNKNOWN, MIDST, "share(4,6,true)",
            "share(-1,-1,false)");
        refuse(23, "UNKNOWN: it is not laid; LATE: there is no GORSE on STAGES laid.", UNKNOWN,
            "'A25055L000L009' line() lay()", "where(1,true)", "where(2,true)", "where(-1,false)");
        refuse(24, "BAD: x; LATE: there is no GORSE on STAGES laid.", BAD, FRESH, "back(0)", "back(11)");
        refuse(25, "UNKNOWN: stage; BAD: m.", UNKNOWN, MIDST, "shows(8,1)", "shows(-1,10)");
        refuse(27, "BAD: stage (0 .. 7), e; FULL: 6.", BAD, "test(0,0)*6", "test(8,0)", "test(0,10)", "test(-1,-10)");
        refuse(35, "UNKNOWN; LATE: none were kept.", UNKNOWN, NEW, "again(2)", "again(-1)");
    }
}
