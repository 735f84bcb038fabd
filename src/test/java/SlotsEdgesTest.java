/** Boundary cases of promises 34 and 35: slots. */
public final class SlotsEdgesTest extends Edges {
    private static final String BEGIN = lined("A25155", "L113", 4) + "lay() lose() lay() ";
    private static final String[] ACTS = {
        "lay()", "lose()", "find(0)", "doubled()", "change()", "stretch(-2)", "knot()", "clear()"};

    public static void main(String[] args) {
        runAll(SlotsEdgesTest.class);
    }

    // ---- promise 34

    @Holds(promise = 34, says = "They are kept: THE PLACE. UNKNOWN.")
    static void keepInWhatIsNoSlot() {
        dueEach("'A25055L000' line() lay()", "keep(-1)=-1 keep(2)=-1 keep(0)=1 keep(1)=1");
        for (int far : FAR) {
            dueBehind("", "keep(" + far + ")", UNKNOWN);
        }
        // A shift by 32 is a shift by 0: SLOT 32 must not be taken for SLOT 0.
        dueEach("", "keep(32)=-1 keep(33)=-1 again(0)=-3 again(1)=-3");
    }

    @Holds(promise = 34, says = "They are kept: THE PLACE.")
    static void keepTellsEachPlace() {
        for (int laid = 0; laid <= 8; laid++) {
            String script = lined("A95055", "L000", 8) + (laid == 0 ? "" : "lay()*" + laid);
            dueEach(script, "keep(0)=" + laid + " keep(1)=" + laid + " again(0)=" + laid);
        }
        dueBehind("", "keep(0)", 0);
    }

    @Holds(promise = 34, says = "SLOTS 0 .. 1 keep all that ACTS change (no ACTS when one goes on).")
    static void keepIsNoActAndForgetsNone() {
        dueEach("change()*14", "keep(0)=0 about(10)=14 undo()=13 about(10)=13 about(7)=1");
    }

    @Holds(promise = 34, says = "They are kept: THE PLACE.")
    static void keepOverWhatWasKept() {
        dueEach("doubled() keep(0) doubled() keep(0) doubled()", "again(0)=0 about(5)=2 again(1)=-3");
    }

    @Holds(promise = 34, says = "SLOTS 0 .. 1 keep all that ACTS change (no ACTS when one goes on).")
    static void keepInOneSlotLeavesTheOther() {
        dueEach("keep(0) doubled() keep(1) doubled()", "again(0)=0 about(5)=0 again(1)=0 about(5)=1 again(0)=0 about(5)=0");
    }

    // ---- promise 35

    @Holds(promise = 35, says = "UNKNOWN; LATE: none were kept.")
    static void againFromWhatIsNoSlot() {
        dueEach("keep(0) keep(1)", "again(-1)=-1 again(2)=-1 again(32)=-1 again(0)=0 again(1)=0");
        for (int far : FAR) {
            dueBehind("keep(0) keep(1)", "again(" + far + ")", UNKNOWN);
        }
    }

    @Holds(promise = 35, says = "UNKNOWN; LATE: none were kept.")
    static void againWhereNoneWereKept() {
        dueEach("", "again(0)=-3 again(1)=-3 keep(0)=0 again(1)=-3 again(0)=0");
        dueEach("keep(1)", "again(0)=-3 again(1)=0");
    }

    @Holds(promise = 35, says = "Of several what is told first.")
    static void againIsUnknownBeforeItIsLate() {
        dueEach("", "again(2)=-1 again(-1)=-1");
    }

    @Holds(promise = 35, says = "LATE: none were kept.")
    static void againBehindALineMadeAnew() {
        dueEach("'A25055L000' line() keep(0) keep(1) line()", "again(0)=-3 again(1)=-3");
        dueEach("'A25055L000' line() lay() keep(0) write(76)", "line()=-3 again(0)=1");
    }

    @Holds(promise = 35, says = "SLOTS 0 .. 1 keep all that ACTS change (no ACTS when one goes on).")
    static void againTakesBackEachKindOfAct() {
        for (String act : ACTS) {
            for (int slot = 0; slot <= 1; slot++) {
                TenArrows before = Script.played(BEGIN + "keep(0) keep(1) again(0)");
                TenArrows behind = Script.played(BEGIN + "keep(" + slot + ") " + act);
                due("again(" + slot + ") behind " + act, 2, behind.again(slot));
                Probe.sameNow(act + " taken back from slot " + slot, before, behind);
            }
        }
    }

    @Holds(promise = 35, says = "SLOTS 0 .. 1 keep all that ACTS change (no ACTS when one goes on).")
    static void againBringsBackEachKindOfAct() {
        for (String act : ACTS) {
            TenArrows before = Script.played(BEGIN + act);
            TenArrows behind = Script.played(BEGIN + act + " keep(1) undo() again(1)");
            for (int what = 0; what <= 9; what++) {
                due(act + " kept, about(" + what + ")", before.about(what), behind.about(what));
            }
            due(act + " kept, truly", before.truly(), behind.truly());
        }
    }

    @Holds(promise = 35, says = "(no ACTS when one goes on)")
    static void againLeavesNoActsOfAFullRow() {
        dueEach("keep(0) doubled()*20", "about(10)=14 again(0)=0 about(10)=0 undo()=-3 about(5)=0 doubled()=1 about(10)=1 undo()=0");
    }

    @Holds(promise = 35, says = "They are as they were kept: THE PLACE.")
    static void againAsOftenAsOneLikes() {
        dueEach("'A25055L000L000' line() lay() keep(0)", "lay()=20000 again(0)=1 lay()=20000 lose()=1 again(0)=1 again(0)=1 "
            + "about(6)=0 about(4)=1");
    }

    @Holds(promise = 35, says = "They are as they were kept: THE PLACE.")
    static void againWithErrorsLaidOtherwiseSince() {
        dueEach("'A25055L110L120' line() lay()*2 keep(0) undo()*2 stretch(3)",
            "lay()=20002 lay()=19999 truly()=22001 again(0)=2 stage(0,3)=19999 stage(1,3)=19996 truly()=21995");
    }

    @Holds(promise = 35, says = "SLOTS 0 .. 1 keep all that ACTS change (no ACTS when one goes on).")
    static void againLeavesWhatActsDoNotChange() {
        dueEach("'A25055L000' line() keep(0) test(1,1) seed(5) write(76)",
            "again(0)=0 about(11)=1 about(12)=11 seed(0)=5 fault()=11 about(1)=1");
    }
}
