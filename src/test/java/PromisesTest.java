/** Each promise by hand: ordinary inputs, the edges that the document names, wrong inputs. */
public final class PromisesTest {
    private static final int UNKNOWN = -1, BAD = -2, LATE = -3, FULL = -4, NONE = -9;
    private static final String EIGHT = "A25055L000L000L000L000L000L000L000L000";
    private static final int[] FAR = {Integer.MIN_VALUE, -1000, 1000, Integer.MAX_VALUE};

    private static final Checks checks = new Checks();

    public static void main(String[] args) {
        newObject();
        write();
        wipe();
        fault();
        line();
        about();
        stage();
        byBookAndTruly();
        lay();
        lose();
        find();
        doubledAndChange();
        stretch();
        knotAndClear();
        undoEach();
        undoRow();
        off();
        ends();
        step();
        share();
        where();
        back();
        shows();
        soonest();
        testAndUntest();
        changes();
        rests();
        chance();
        seedAndDays();
        keepAndAgain();
        orderOfRefusals();
        refusedChangesNothing();
        checks.finish("PromisesTest");
    }

    // ---- helpers

    private static void due(String call, long want, long got) {
        checks.due(call, want, got);
    }

    private static void spell(TenArrows x, String text) {
        x.wipe();
        for (int i = 0; i < text.length(); i++) {
            due("write in " + text, i + 1, x.write(text.charAt(i)));
        }
    }

    private static TenArrows lined(String text) {
        TenArrows x = new TenArrows();
        spell(x, text);
        due("line of " + text, (text.length() - 6) / 4, x.line());
        return x;
    }

    /** ARROWS, STAGES, PLACE, HAND, BACK, TALLY, LOST, leader, STRETCH, KNOTS, ACTS, TESTS, bytes, BENTs. */
    private static void dueAbout(String when, TenArrows x, int... want) {
        for (int what = 0; what < want.length; what++) {
            due(when + ", about(" + what + ")", want[what], x.about(what));
        }
    }

    private static void dueFraction(String call, int top, int bottom, int gotTop, int gotBottom) {
        due(call + " above", top, gotTop);
        due(call + " below", bottom, gotBottom);
    }

    private static void dueShare(TenArrows x, int source, int n, int top, int bottom) {
        dueFraction("share(" + source + ", " + n + ")", top, bottom, x.share(source, n, true), x.share(source, n, false));
    }

    private static void dueWhere(TenArrows x, int stage, int top, int bottom) {
        dueFraction("where(" + stage + ")", top, bottom, x.where(stage, true), x.where(stage, false));
    }

    private static void dueChance(TenArrows x, int n, int m, int top, int bottom) {
        dueFraction("chance(" + n + ", " + m + ")", top, bottom, x.chance(n, m, true), x.chance(n, m, false));
    }

    private static String whole(TenArrows x) {
        StringBuilder all = new StringBuilder();
        for (int what = 0; what <= 14; what++) {
            all.append(x.about(what)).append(' ');
        }
        for (int stage = 0; stage < 8; stage++) {
            for (int what = 0; what < 5; what++) {
                all.append(x.stage(stage, what)).append(' ');
            }
        }
        all.append(x.byBook()).append(' ').append(x.truly()).append(' ').append(x.fault()).append(' ');
        for (int what = 0; what < 3; what++) {
            all.append(x.changes(what)).append(' ');
        }
        long seed = x.seed(0);
        x.seed(seed);
        return all.append(seed).toString();
    }

    // ---- the line

    private static void newObject() {
        TenArrows x = new TenArrows();
        dueAbout("new", x, 2, 0, 0, 2, 0, 0, 0, 0, 50, 0, 0, 0, 0, 5, 5);
        due("new byBook", 0, x.byBook());
        due("new truly", 20000, x.truly());
        due("new fault", 0, x.fault());
        due("new line", LATE, x.line());
        due("new undo", LATE, x.undo());
        due("new again(0)", LATE, x.again(0));
        due("new again(1)", LATE, x.again(1));
        due("new seed", 0, x.seed(7));
        due("new lay", LATE, x.lay());
        due("new stage", UNKNOWN, x.stage(0, 0));
    }

    private static void write() {
        TenArrows x = new TenArrows();
        due("write(-1)", BAD, x.write(-1));
        due("write(256)", BAD, x.write(256));
        for (int far : FAR) {
            due("write far", BAD, x.write(far));
        }
        due("about(12) behind BAD", 0, x.about(12));
        due("write(0)", 1, x.write(0));
        due("write(255)", 2, x.write(255));
        for (int i = 3; i <= 40; i++) {
            due("write " + i, i, x.write('A'));
        }
        due("write 41", FULL, x.write('A'));
        due("write(256) when full", BAD, x.write(256));
        due("about(12) when full", 40, x.about(12));
        due("wipe", 40, x.wipe());
        due("write behind wipe", 1, x.write('A'));
    }

    private static void wipe() {
        TenArrows x = lined("A35055L124");
        due("lay", 19996, x.lay());
        due("wipe", 10, x.wipe());
        due("wipe again", 0, x.wipe());
        due("fault of nothing", 0, x.fault());
        dueAbout("wipe leaves the line", x, 3, 1, 1, 2, 1, 0, 0, 0, 50, 0, 1, 0, 0, 5, 5);
    }

    private static void dueFault(String text, int want) {
        TenArrows x = new TenArrows();
        spell(x, text);
        due("fault of " + text, want, x.fault());
        due("line of " + text, want == NONE ? (text.length() - 6) / 4 : LATE, x.line());
    }

    private static void fault() {
        dueFault("", 0);
        dueFault("a", 0);
        dueFault("L", 0);
        dueFault("A", 1);
        dueFault("A1", 1);
        dueFault("A0", 1);
        dueFault("A:", 1);
        dueFault("A2", 2);
        dueFault("A9/", 2);
        dueFault("A9:", 2);
        dueFault("A900000", 6);
        dueFault("A90000", NONE);
        dueFault("A99999", NONE);
        dueFault("A9999", 5);
        dueFault("A999", 4);
        dueFault("A99", 3);
        dueFault("A99 99", 3);
        dueFault("A999x9", 4);
        dueFault("A9999x", 5);
        dueFault("A25055l", 6);
        dueFault("A25055L", 7);
        dueFault("A25055L/", 7);
        dueFault("A25055L4", 7);
        dueFault("A25055L3", 8);
        dueFault("A25055L3:", 8);
        dueFault("A25055L39", 9);
        dueFault("A25055L39x", 9);
        dueFault("A25055L399", NONE);
        dueFault("A25055L399A", 10);
        dueFault("A25055L399L", 11);
        dueFault(EIGHT, NONE);
        dueFault(EIGHT + "L", 38);
        dueFault(EIGHT + "L0", 38);
        dueFault(EIGHT + "x", 38);
        dueFault(EIGHT.substring(0, 37), 37);
        dueFault(EIGHT.replace("A2", "A1") + "L0", 1);
    }

    private static void line() {
        TenArrows x = new TenArrows();
        spell(x, "A41698L199L000");
        due("line", 2, x.line());
        dueAbout("line", x, 4, 2, 0, 4, 0, 0, 0, 0, 46, 6, 0, 0, 14, 9, 8);
        x.test(1, 2);
        x.seed(77);
        x.keep(0);
        x.keep(1);
        x.lay();
        x.lose();
        x.doubled();
        x.change();
        x.stretch(2);
        x.knot();
        spell(x, "A41698L19");
        due("line with a fault", LATE, x.line());
        dueAbout("refused line", x, 4, 2, 1, 3, 0, 1, 1, 1, 48, 7, 6, 1, 9, 9, 8);
        due("refused line keeps slots", 0, x.again(0));
        spell(x, "A59001L333");
        x.lay();
        x.lose();
        x.change();
        due("line anew", 1, x.line());
        dueAbout("line anew", x, 5, 1, 0, 5, 0, 0, 0, 0, 54, 0, 0, 1, 10, 0, 1);
        due("error of a line anew", NONE, x.stage(0, 3));
        due("lost of a line anew", 0, x.stage(0, 4));
        due("slots are gone", LATE, x.again(0));
        due("slots are gone", LATE, x.again(1));
        due("acts are gone", LATE, x.undo());
        due("seed stays", 77, x.seed(0));
        due("stage gone", UNKNOWN, x.stage(1, 0));
        due("line of the same text", 1, x.line());
        spell(x, "A20000");
        due("line without stages", 0, x.line());
        dueAbout("no stages", x, 2, 0, 0, 2, 0, 0, 0, 0, 45, 0, 0, 1, 6, 0, 0);
        due("no stages", UNKNOWN, x.stage(0, 0));
    }

    private static void about() {
        TenArrows x = lined("A37164L152L234");
        x.lay();
        x.lose();
        x.lay();
        x.change();
        x.test(0, 0);
        x.test(7, 9);
        dueAbout("about", x, 3, 2, 2, 1, 1, 0, 1, 1, 52, 1, 4, 2, 14, 6, 4);
        due("about(-1)", BAD, x.about(-1));
        due("about(15)", BAD, x.about(15));
        for (int far : FAR) {
            due("about far", BAD, x.about(far));
        }
    }

    private static void stage() {
        TenArrows x = lined("A37164L152L234L397");
        int[][] want = {{1, 5, 2}, {2, 3, 4}, {3, 9, 7}};
        for (int stage = 0; stage < 3; stage++) {
            for (int what = 0; what < 3; what++) {
                due("stage(" + stage + ", " + what + ")", want[stage][what], x.stage(stage, what));
            }
            due("stage not laid", NONE, x.stage(stage, 3));
            due("stage not lost", 0, x.stage(stage, 4));
        }
        // STRETCH 2, BENT of 0 is 1, KNOTS 1: 2 more; ASLANT 5: 25 less, STEPPED 3: 3 less
        x.lay();
        x.lose();
        x.lay();
        due("stage(0, 3)", 19977, x.stage(0, 3));
        due("stage(1, 3)", 19999, x.stage(1, 3));
        due("stage(2, 3)", NONE, x.stage(2, 3));
        due("stage(0, 4)", 1, x.stage(0, 4));
        due("stage(1, 4)", 0, x.stage(1, 4));
        x.stretch(3);
        due("its error stays as it was laid", 19977, x.stage(0, 3));
        due("stage(0, 5)", BAD, x.stage(0, 5));
        due("stage(0, -1)", BAD, x.stage(0, -1));
        due("stage(3, 0)", UNKNOWN, x.stage(3, 0));
        due("stage(-1, 0)", UNKNOWN, x.stage(-1, 0));
        for (int far : FAR) {
            due("stage far", UNKNOWN, x.stage(far, 0));
            due("what far", BAD, x.stage(0, far));
        }
    }

    private static void byBookAndTruly() {
        TenArrows x = lined("A25055L130L000L220L340");
        due("byBook", 0, x.byBook());
        due("truly", 20000, x.truly());
        x.lay();
        due("byBook 1", 1, x.byBook());
        due("truly 1", 20991, x.truly());
        x.lay();
        due("byBook 2", 2, x.byBook());
        due("truly 2", 21991, x.truly());
        x.lay();
        due("byBook 3", 3, x.byBook());
        due("truly 3", 22989, x.truly());
        x.doubled();
        due("byBook doubled", 5, x.byBook());
        x.lose();
        due("byBook lost", 4, x.byBook());
        due("truly does not mind", 22989, x.truly());
        x.lay();
        due("byBook 4", 5, x.byBook());
        due("truly 4", 23981, x.truly());
    }

    // ---- acts

    private static void lay() {
        TenArrows x = lined("A28363L057L157L257L357L140");
        // STRETCH 3, KNOTS 3, BENT 1 and -2
        due("lay LEVEL", 20001, x.lay());
        dueAbout("laid 1", x, 2, 5, 1, 1, 1, 0, 0, 0, 53, 3, 1);
        due("lay ASLANT", 19976, x.lay());
        dueAbout("laid 2", x, 2, 5, 2, 0, 2, 0, 0, 0, 53, 3, 2);
        x.change();
        due("lay STEPPED", 19993, x.lay());
        dueAbout("laid 3", x, 2, 5, 3, 1, 1, 1, 0, 1, 53, 3, 4);
        x.knot();
        x.stretch(-1);
        due("lay ROUND", 19986, x.lay());
        x.clear();
        x.change();
        due("lay with stretch 2, bent 1", 19987, x.lay());
        due("lay: no stage is left", LATE, x.lay());
        due("acts", 10, x.about(10));

        TenArrows y = lined("A25055L009L009L009L009");
        y.lay();
        y.lose();
        y.lay();
        y.lose();
        due("lay: no arrow", LATE, y.lay());
        dueAbout("no arrow", y, 2, 4, 2, 0, 0, 0, 3, 0, 50, 0, 4);
        y.find(1);
        due("lay with one found", 20000, y.lay());
        dueAbout("one found", y, 2, 4, 3, 0, 1, 1, 1, 0, 50, 0, 6);
    }

    private static void lose() {
        TenArrows x = lined("A35055L001L002L003");
        due("lose: nothing was laid", LATE, x.lose());
        x.lay();
        x.lay();
        due("lose", 1, x.lose());
        dueAbout("lost", x, 3, 3, 2, 1, 1, 0, 2, 0, 50, 0, 3);
        due("lose: that one is lost", LATE, x.lose());
        due("acts", 3, x.about(10));
        x.lay();
        due("lose the next", 1, x.lose());
        due("lost bits", 6, x.about(6));
        x.find(2);
        due("lose it again", 1, x.lose());
    }

    private static void find() {
        TenArrows x = lined("A35055L001L002L003");
        due("find(0): not laid", LATE, x.find(0));
        x.lay();
        due("find(0): not lost", LATE, x.find(0));
        x.lose();
        x.lay();
        x.lose();
        due("back", 0, x.about(4));
        due("find(3)", UNKNOWN, x.find(3));
        due("find(-1)", UNKNOWN, x.find(-1));
        for (int far : FAR) {
            due("find far", UNKNOWN, x.find(far));
        }
        due("find(0)", 1, x.find(0));
        due("lost bits", 2, x.about(6));
        due("find(0) again", LATE, x.find(0));
        due("find(2): not laid", LATE, x.find(2));
        due("find(1)", 2, x.find(1));
        due("hand", 1, x.about(3));
        due("acts", 6, x.about(10));
    }

    private static void doubledAndChange() {
        TenArrows x = lined("A45055L000");
        due("doubled", 1, x.doubled());
        due("doubled", 2, x.doubled());
        due("byBook", 8, x.byBook());
        due("hand stays", 4, x.about(3));
        due("change", 1, x.change());
        due("about(7)", 1, x.about(7));
        due("change", 0, x.change());
        due("acts", 4, x.about(10));
        TenArrows y = new TenArrows();
        due("doubled without a line", 1, y.doubled());
        due("change without a line", 1, y.change());
    }

    private static void stretch() {
        TenArrows x = lined("A25055");
        due("stretch(0)", BAD, x.stretch(0));
        due("stretch(4)", BAD, x.stretch(4));
        due("stretch(-4)", BAD, x.stretch(-4));
        for (int far : FAR) {
            due("stretch far", BAD, x.stretch(far));
        }
        due("acts", 0, x.about(10));
        due("stretch(3)", 53, x.stretch(3));
        due("stretch(3)", 56, x.stretch(3));
        due("stretch(2)", 58, x.stretch(2));
        due("stretch(2) too far", LATE, x.stretch(2));
        due("stretch(3) too far", LATE, x.stretch(3));
        due("stretch(1)", 59, x.stretch(1));
        due("stretch(1) too far", LATE, x.stretch(1));
        due("stretch(4) at the end", BAD, x.stretch(4));
        due("acts", 4, x.about(10));
        for (int want = 56; want >= 41; want -= 3) {
            due("stretch(-3)", want, x.stretch(-3));
        }
        due("stretch(-1) too far", LATE, x.stretch(-1));
        due("about(8)", 41, x.about(8));
    }

    private static void knotAndClear() {
        TenArrows x = lined("A25755");
        due("knot", 8, x.knot());
        due("knot", 9, x.knot());
        due("knot: 9", FULL, x.knot());
        due("acts", 2, x.about(10));
        due("clear", 9, x.clear());
        due("about(9)", 0, x.about(9));
        due("clear: none", LATE, x.clear());
        due("acts", 3, x.about(10));
        due("knot", 1, x.knot());
    }

    private static void undoEach() {
        for (int act = 0; act < 8; act++) {
            TenArrows x = lined("A25155L112L223L334");
            x.lay();
            x.lose();
            x.knot();
            String before = whole(x);
            int acts = x.about(10);
            actOnce(x, act);
            checks.isTrue("act " + act + " shows", !before.equals(whole(x)));
            due("undo act " + act, acts, x.undo());
            checks.isTrue("undo of act " + act, before.equals(whole(x)));
        }
    }

    private static void actOnce(TenArrows x, int act) {
        switch (act) {
            case 0: x.lay(); break;
            case 1: x.find(0); break;
            case 2: x.doubled(); break;
            case 3: x.change(); break;
            case 4: x.stretch(-2); break;
            case 5: x.knot(); break;
            case 6: x.clear(); break;
            default:
                x.lay();
                String before = whole(x);
                x.lose();
                due("undo lose", 4, x.undo());
                checks.isTrue("undo of lose", before.equals(whole(x)));
        }
    }

    private static void undoRow() {
        TenArrows x = lined("A25055L000L000L000");
        for (int i = 1; i <= 20; i++) {
            x.doubled();
            due("acts " + i, Math.min(i, 14), x.about(10));
        }
        for (int i = 13; i >= 0; i--) {
            due("undo to " + i, i, x.undo());
            due("tally", 6 + i, x.about(5));
        }
        due("undo: none", LATE, x.undo());
        due("tally", 6, x.about(5));

        // A refill is undone too: the arrows are at the back again.
        TenArrows y = lined("A25055L110L120L130");
        y.lay();
        y.lay();
        y.lay();
        due("undo the refill", 2, y.undo());
        dueAbout("refill undone", y, 2, 3, 2, 0, 2, 0);
        due("error undone", NONE, y.stage(2, 3));
        y.stretch(1);
        due("lay anew", 19992, y.lay());
        due("its new error", 19992, y.stage(2, 3));
        due("its elder's error", 19996, y.stage(1, 3));
    }

    // ---- ahead

    private static void off() {
        // STRETCH 1, KNOTS 2, BENT 3 and -4; ground 0, -4, -3, -8
        TenArrows x = lined("A26281L050L120L230L340");
        due("off(0, 0)", 20000, x.off(0, 0));
        due("off(1, 0)", 20002, x.off(1, 0));
        due("off(1, 1)", 19995, x.off(1, 1));
        due("off(1, 254): bits of others", 20002, x.off(1, 254));
        due("off(4, 0)", 19993, x.off(4, 0));
        due("off(4, 15)", 19965, x.off(4, 15));
        due("off(4, 255)", 19965, x.off(4, 255));
        due("off(4, 6)", 19979, x.off(4, 6));
        due("off(5, 0)", BAD, x.off(5, 0));
        due("off(-1, 0)", BAD, x.off(-1, 0));
        due("off(0, -1)", BAD, x.off(0, -1));
        due("off(0, 256)", BAD, x.off(0, 256));
        for (int far : FAR) {
            due("off far", BAD, x.off(far, 0));
            due("plan far", BAD, x.off(0, far));
        }
        x.lay();
        due("off(1, 1) behind a stage: bit k is of stage k", 19998, x.off(1, 1));
        due("off(1, 2) behind a stage", 19991, x.off(1, 2));
        due("off(3, 0) behind a stage", 19991, x.off(3, 0));
        due("off(4, 0) behind a stage", BAD, x.off(4, 0));
        x.change();
        due("off does not mind who leads", 19991, x.off(3, 0));
        x.stretch(2);
        x.knot();
        due("off by the stretch and knots that are now", 19994, x.off(3, 0));
    }

    private static void dueEnds(TenArrows x, int n, int plan, int off) {
        due("ends(" + n + ", 0)", plan, x.ends(n, 0));
        due("ends(" + n + ", 1)", off, x.ends(n, 1));
    }

    private static void ends() {
        // BENT 1 and -1, all else nothing: half and half goes out
        TenArrows x = lined("A25064L000L000L000L000");
        dueEnds(x, 0, 0, 20000);
        // like ones 01 and 10: from LEADER 0 on 10 changes once, 01 twice
        dueEnds(x, 2, 2, 20000);
        dueEnds(x, 4, 12, 20000);
        // 1 or -1: all by one of 0, 0, 1 (one change) or 0, 1, 1 (one change): 4 is less than 6
        dueEnds(x, 3, 4, 20001);
        dueEnds(x, 1, 0, 20001);
        x.change();
        dueEnds(x, 0, 0, 20000);
        dueEnds(x, 1, 1, 19999);
        dueEnds(x, 2, 1, 20000);
        dueEnds(x, 4, 3, 20000);
        x.lay();
        // STAGES 1 .. 3 ahead: bits 1 .. 3
        dueEnds(x, 2, 2, 20000);
        dueEnds(x, 3, 2, 20001);
        due("ends(4, 0)", BAD, x.ends(4, 0));
        due("ends(-1, 0)", BAD, x.ends(-1, 0));
        due("ends(0, 2)", BAD, x.ends(0, 2));
        due("ends(0, -1)", BAD, x.ends(0, -1));
        for (int far : FAR) {
            due("ends far", BAD, x.ends(far, 0));
            due("what far", BAD, x.ends(0, far));
        }
        // like leaders: nobody changes, whoever leads
        TenArrows y = lined("A25077L000L000L000");
        dueEnds(y, 3, 0, 20006);
        y.change();
        dueEnds(y, 3, 7, 20006);
        // BENT 3 and 0, ground 6 less: two by LEADER 0 go out
        TenArrows z = lined("A25085L230L230L000");
        dueEnds(z, 3, 4, 20000);
    }

    private static void step() {
        // ground -9 (ASLANT 3), -4 (ASLANT 2), -3 (STEPPED), -16 (ASLANT 4): 32 less; stepped 6, 2, -, 12 more
        TenArrows x = lined("A25058L130L120L230L140");
        due("step(99)", 0, x.step(99));
        due("step(32)", 0, x.step(32));
        due("step(26): the least of like ones", 1, x.step(26));
        due("step(31)", 1, x.step(31));
        due("step(30)", 1, x.step(30));
        due("step(25)", 8, x.step(25));
        due("step(20)", 8, x.step(20));
        due("step(19)", 9, x.step(19));
        due("step(14)", 9, x.step(14));
        due("step(13)", 11, x.step(13));
        due("step(12)", 11, x.step(12));
        due("step(11)", NONE, x.step(11));
        due("step(0)", NONE, x.step(0));
        due("step(100)", BAD, x.step(100));
        due("step(-1)", BAD, x.step(-1));
        for (int far : FAR) {
            due("step far", BAD, x.step(far));
        }
        x.change();
        // LEADER 1 is BENT by 3: 12 more
        due("step(8) as LEADER 1 leads", 8, x.step(8));
        due("step(7) as LEADER 1 leads", 9, x.step(7));
        due("step(2) as LEADER 1 leads", 9, x.step(2));
        due("step(1) as LEADER 1 leads", 11, x.step(1));
        due("step(0) as LEADER 1 leads", 11, x.step(0));
        x.change();
        x.lay();
        due("step(23) of stages ahead", 0, x.step(23));
        due("step(21) of stages ahead", 2, x.step(21));
        due("step(20) of stages ahead", 8, x.step(20));
        due("step(9) of stages ahead", 10, x.step(9));
        due("step(8) of stages ahead", NONE, x.step(8));
        // OFF more than x: stepping makes it no less
        TenArrows y = lined("A29099L110L120");
        due("step(11), OFF is 11", 0, y.step(11));
        due("step(10), OFF is 11", NONE, y.step(10));
        // Eight times ASLANT 2: 32 less, each 2 more when stepped
        TenArrows z = lined("A25055L120L120L120L120L120L120L120L120");
        due("step(31): one of eight", 1, z.step(31));
        due("step(18): seven of eight", 127, z.step(18));
        due("step(16): all eight", 255, z.step(16));
        due("step(15)", NONE, z.step(15));
        // ROUND, LEVEL and STEPPED ones are not to be stepped
        TenArrows w = lined("A25055L330L120L050L230");
        due("step(12)", 2, w.step(12));
        due("step(11)", 2, w.step(11));
        due("step(10)", NONE, w.step(10));
        // STRETCH 2: each STAGE AHEAD counts once, those laid do not
        TenArrows v = lined("A27055L000L130L000");
        v.lay();
        due("step(5) behind a stage", 0, v.step(5));
        due("step(4) behind a stage", 2, v.step(4));
        due("step(1) behind a stage", 2, v.step(1));
        due("step(0) behind a stage", NONE, v.step(0));
    }

    private static void share() {
        // one STAGE: STRETCH 4, GROUND 0, BENT 0, KNOTS 0: all of it is STRETCH's
        TenArrows x = lined("A29055L000");
        dueShare(x, 0, 1, 4, 1);
        dueShare(x, 1, 1, 0, 1);
        dueShare(x, 2, 1, 0, 1);
        dueShare(x, 3, 1, 0, 1);
        dueShare(x, 0, 0, 0, 1);
        // STRETCH 4, KNOTS 1: 4 first then 3, or 1 then 3: (4 + 2) / 2 and (1 - 1) / 2
        TenArrows y = lined("A29155L000");
        dueShare(y, 0, 1, 3, 1);
        dueShare(y, 3, 1, 0, 1);
        // STRETCH 2, GROUND -1, KNOTS 4: of six orders a source is first in 2, last in 2, between in 2.
        // STRETCH: 2 2 (first), 1-1 (behind GROUND), 2-4 (behind KNOTS), 3-5 3-5 (last): -2 / 6
        // GROUND: 1 1, 1-2, 5-4, 3-2 3-2: 4 / 6; KNOTS: 4 4, 2-2, 5-1, 3-1 3-1: 16 / 6
        TenArrows z = lined("A27455L210");
        dueShare(z, 0, 1, -1, 3);
        dueShare(z, 1, 1, 2, 3);
        dueShare(z, 3, 1, 8, 3);
        dueShare(z, 2, 1, 0, 1);
        // All four: STRETCH 1, GROUND -1, BENT 2, KNOTS 1; of 24 orders first in 6, second and third behind
        // each one or two others in 2, last in 6. STRETCH: 6 - 2 + 2 + 6, GROUND and KNOTS: 6 - 2 - 2 - 6,
        // BENT: 12 + 4 + 4 + 0; LEADER 1's, -3: 18 + 14 + 18 + 18
        TenArrows w = lined("A26172L210L330");
        dueShare(w, 0, 1, 1, 2);
        dueShare(w, 1, 1, -1, 6);
        dueShare(w, 2, 1, 5, 6);
        dueShare(w, 3, 1, -1, 6);
        w.change();
        dueShare(w, 2, 1, 17, 6);
        due("share of four", UNKNOWN, w.share(4, 0, true));
        due("share of -1", UNKNOWN, w.share(-1, 0, false));
        due("share n 3", BAD, w.share(0, 3, true));
        due("share n -1", BAD, w.share(0, -1, true));
        for (int far : FAR) {
            due("source far", UNKNOWN, w.share(far, 0, true));
            due("n far", BAD, w.share(0, far, true));
        }
        w.lay();
        // STAGE 1 alone is ahead: GROUND -6: 36 + 32 + 36 + 36
        dueShare(w, 1, 1, 35, 6);
        due("share n 2 behind a stage", BAD, w.share(0, 2, true));
    }

    private static void where() {
        TenArrows x = lined("A25055L002L004L000L003L009");
        due("where(0): not laid", UNKNOWN, x.where(0, true));
        x.lay();
        dueWhere(x, 0, 1, 1);
        x.lay();
        dueWhere(x, 0, 1, 3);
        dueWhere(x, 1, 2, 3);
        x.lay();
        dueWhere(x, 2, 0, 1);
        x.lay();
        dueWhere(x, 0, 2, 9);
        dueWhere(x, 1, 4, 9);
        dueWhere(x, 3, 1, 3);
        due("where(4): not laid", UNKNOWN, x.where(4, false));
        due("where(5)", UNKNOWN, x.where(5, true));
        due("where(-1)", UNKNOWN, x.where(-1, true));
        for (int far : FAR) {
            due("where far", UNKNOWN, x.where(far, true));
        }
        TenArrows w = lined("A25055L001");
        w.lay();
        dueWhere(w, 0, 1, 1);
        TenArrows y = lined("A25055L000L005");
        y.lay();
        due("where: no gorse", LATE, y.where(0, true));
        due("where: no gorse, not laid", UNKNOWN, y.where(1, true));
    }

    private static void back() {
        TenArrows x = lined("A25055L005L000L002L003L009");
        due("back(1): nothing laid", LATE, x.back(1));
        due("back(0)", BAD, x.back(0));
        due("back(11)", BAD, x.back(11));
        for (int far : FAR) {
            due("back far", BAD, x.back(far));
        }
        for (int i = 0; i < 4; i++) {
            x.lay();
        }
        int[] want = {1, 1, 1, 2, 2, 4, 4, 4, 4, 4};
        for (int tenths = 1; tenths <= 10; tenths++) {
            due("back(" + tenths + ")", want[tenths - 1], x.back(tenths));
        }
        TenArrows y = lined("A25055L005L000L000");
        y.lay();
        y.lay();
        due("back(1) over bare ground", 2, y.back(1));
        due("back(10) over bare ground", 2, y.back(10));
        TenArrows w = lined("A25055L001L009L009");
        w.lay();
        due("back(1) of one tenth of gorse", 1, w.back(1));
        w.lay();
        w.lay();
        due("back(9): 18 of 19", 2, w.back(9));
        due("back(10): 19 of 19", 3, w.back(10));
        TenArrows z = lined("A25055L000L005");
        z.lay();
        due("back: no gorse", LATE, z.back(5));
        due("back: no gorse, x", BAD, z.back(0));
    }

    private static void shows() {
        TenArrows x = lined(EIGHT);
        int[][] byTwo = {{0, 2}, {1, 2}, {2, 4}, {3, 4}, {5, 6}, {6, NONE}, {7, NONE}};
        for (int[] pair : byTwo) {
            due("shows(" + pair[0] + ", 2)", pair[1], x.shows(pair[0], 2));
        }
        due("shows(0, 3)", 3, x.shows(0, 3));
        due("shows(3, 3)", 6, x.shows(3, 3));
        due("shows(6, 3)", NONE, x.shows(6, 3));
        due("shows(0, 7)", 7, x.shows(0, 7));
        due("shows(6, 7)", 7, x.shows(6, 7));
        due("shows(7, 7)", NONE, x.shows(7, 7));
        due("shows(0, 8)", NONE, x.shows(0, 8));
        due("shows(0, 9)", NONE, x.shows(0, 9));
        due("shows(0, 1)", BAD, x.shows(0, 1));
        due("shows(0, 10)", BAD, x.shows(0, 10));
        due("shows(8, 2)", UNKNOWN, x.shows(8, 2));
        due("shows(-1, 2)", UNKNOWN, x.shows(-1, 2));
        for (int far : FAR) {
            due("shows far", UNKNOWN, x.shows(far, 2));
            due("m far", BAD, x.shows(0, far));
        }
        for (int i = 0; i < 5; i++) {
            x.lay();
        }
        x.lose();
        due("shows is from the beginning on", 2, x.shows(0, 2));
    }

    private static void soonest() {
        due("soonest of nothing", 2, new TenArrows().soonest());
        // The last STAGE's ARROW never shows, so every number of ARROWS waits 9 at worst: 2 is the least.
        String text = "A95055";
        for (int stages = 0; stages <= 8; stages++) {
            due("soonest of " + stages, 2, lined(text).soonest());
            text = text + "L000";
        }
    }

    // ---- tests

    private static void testAndUntest() {
        TenArrows x = new TenArrows();
        due("untest of none", 0, x.untest());
        due("test(8, 0)", BAD, x.test(8, 0));
        due("test(-1, 0)", BAD, x.test(-1, 0));
        due("test(0, 10)", BAD, x.test(0, 10));
        due("test(0, -10)", BAD, x.test(0, -10));
        for (int far : FAR) {
            due("test far", BAD, x.test(far, 0));
            due("e far", BAD, x.test(0, far));
        }
        due("test(0, -9)", 1, x.test(0, -9));
        due("test(7, 9)", 2, x.test(7, 9));
        for (int i = 3; i <= 6; i++) {
            due("test " + i, i, x.test(3, 0));
        }
        due("test 7", FULL, x.test(3, 0));
        due("test(8, 0) when full", BAD, x.test(8, 0));
        due("about(11)", 6, x.about(11));
        due("acts", 0, x.about(10));
        due("untest", 6, x.untest());
        due("about(11)", 0, x.about(11));
        due("test behind untest", 1, x.test(3, 0));
    }

    private static void dueChanges(String when, TenArrows x, int many, int first, int stages) {
        due(when + ", changes(0)", many, x.changes(0));
        due(when + ", changes(1)", first, x.changes(1));
        due(when + ", changes(2)", stages, x.changes(2));
    }

    private static void changes() {
        TenArrows x = lined("A27055L000");
        dueChanges("no tests", x, 171, 41, 511);
        x.test(4, 2);
        // as told: any stretch from a STAGE behind 4 on (4 * 19), or 2 itself from 0 .. 4 on
        dueChanges("as told", x, 81, 52, 511);
        x.test(6, -9);
        // from 5 or 6 on -9
        dueChanges("two", x, 2, 541, 96);
        x.stretch(3);
        dueChanges("by the line, not by what it is now", x, 2, 541, 96);
        x.test(5, 2);
        dueChanges("three", x, 1, 641, 64);
        x.test(7, 2);
        dueChanges("none", x, 0, NONE, NONE);
        x.untest();
        x.test(0, 9);
        dueChanges("from the beginning on", x, 1, 59, 1);
        x.untest();
        x.test(7, 3);
        dueChanges("at the end", x, 8, 53, 255);
        due("changes(3)", BAD, x.changes(3));
        due("changes(-1)", BAD, x.changes(-1));
        for (int far : FAR) {
            due("changes far", BAD, x.changes(far));
        }
        spell(x, "A28055");
        x.line();
        dueChanges("tests stay when the line is made anew", x, 27, 53, 511);
    }

    // ---- rests, chances

    private static void dueRests(TenArrows x, int n, int many, int first) {
        due("rests(" + n + ", 0)", many, x.rests(n, 0));
        due("rests(" + n + ", 1)", first, x.rests(n, 1));
    }

    private static void rests() {
        // Six STAGES of nothing but BENT 4 and 4: OFF 24, each leads three: a mend of 1 takes 3 and costs 2
        TenArrows x = lined("A25099L000L000L000L000L000L000");
        dueRests(x, 0, 1, 22);
        // one turn each: a mend of 1 takes 1 and costs 2
        dueRests(x, 2, 1, 22);
        dueRests(x, 6, 1, 0);
        // four STAGES: two turns each, OFF 16: a mend of 1 takes 2 and costs 2: 0, -1, -2 are alike
        dueRests(x, 4, 9, 0);
        // three STAGES: LEADER 0 has two turns, LEADER 1 one: 0's -2, -1, 0 are alike, 1 mends nothing
        dueRests(x, 3, 3, 2);
        x.change();
        dueRests(x, 3, 3, 20);
        // five: LEADER 1 has three turns, LEADER 0 two
        dueRests(x, 5, 3, 0);
        x.lay();
        due("rests(6, 0)", BAD, x.rests(6, 0));
        due("rests(-1, 0)", BAD, x.rests(-1, 0));
        due("rests(0, 2)", BAD, x.rests(0, 2));
        due("rests(0, -1)", BAD, x.rests(0, -1));
        for (int far : FAR) {
            due("rests far", BAD, x.rests(far, 0));
            due("what far", BAD, x.rests(0, far));
        }
        // OFF 6 less, three turns each: it goes out by (0, 2), (1, 1), (2, 0); 6 more: by (-2, 0), (-1, -1), (0, -2)
        TenArrows y = lined("A24055L000L000L000L000L000L000");
        dueRests(y, 6, 3, 24);
        TenArrows z = lined("A26055L000L000L000L000L000L000");
        dueRests(z, 6, 3, 2);
        // OFF 30 less: each mends all it can
        TenArrows w = lined("A25000L000L000L000L000L000L000");
        dueRests(w, 6, 1, 44);
    }

    private static void chance() {
        TenArrows x = lined("A25055L001L002L005L000L009L005L004");
        dueChance(x, 1, 0, 9, 10);
        dueChance(x, 1, 1, 1, 10);
        dueChance(x, 1, 2, 0, 1);
        dueChance(x, 2, 0, 18, 25);
        dueChance(x, 2, 1, 13, 50);
        dueChance(x, 2, 2, 1, 50);
        dueChance(x, 3, 0, 9, 25);
        dueChance(x, 3, 1, 49, 100);
        dueChance(x, 3, 3, 1, 100);
        dueChance(x, 6, 5, 9, 2000);
        dueChance(x, 6, 6, 0, 1);
        dueChance(x, 6, 0, 9, 500);
        due("chance n 0", BAD, x.chance(0, 0, true));
        due("chance n 7", BAD, x.chance(7, 0, true));
        due("chance m 7", BAD, x.chance(1, 7, true));
        due("chance m -1", BAD, x.chance(1, -1, true));
        for (int far : FAR) {
            due("chance far", BAD, x.chance(far, 0, true));
            due("m far", BAD, x.chance(1, far, true));
        }
        x.lay();
        dueChance(x, 1, 1, 1, 5);
        dueChance(x, 3, 2, 1, 10);
        x.lay();
        due("chance n more than ahead", BAD, x.chance(6, 0, true));
        dueChance(x, 5, 5, 0, 1);
        TenArrows y = lined("A25055L000L009L009L009L009L009L009");
        dueChance(y, 1, 0, 1, 1);
        y.lay();
        dueChance(y, 6, 6, 531441, 1000000);
        dueChance(y, 6, 0, 1, 1000000);
    }

    private static void seedAndDays() {
        TenArrows x = lined("A25055L005L000L009");
        due("seed", 0, x.seed(Long.MIN_VALUE));
        due("seed", Long.MIN_VALUE, x.seed(0));
        due("days(0)", BAD, x.days(0));
        due("days(21)", BAD, x.days(21));
        for (int far : FAR) {
            due("days far", BAD, x.days(far));
        }
        due("BAD leaves the seed", 0, x.seed(0));
        // 1442695040888963407 >>> 33 is 167951807: 7 left; 1876011003808476466 >>> 33: 218396536
        TenArrows y = lined("A25055L008");
        due("days(1)", 1, y.days(1));
        due("the seed behind one step", 1442695040888963407L, y.seed(0));
        due("days(2)", 2, y.days(2));
        due("the seed behind two", 1442695040888963407L * 6364136223846793005L + 1442695040888963407L, y.seed(0));
        TenArrows z = lined("A25055L007");
        due("days(1): 7 is not less than 7", 0, z.days(1));
        TenArrows w = lined("A25055L000L000");
        w.lay();
        due("days of bare ground", 0, w.days(20));
        long seed = 0;
        for (int i = 0; i < 20; i++) {
            seed = seed * 6364136223846793005L + 1442695040888963407L;
        }
        due("one step a stage ahead", seed, w.seed(0));
        w.lay();
        due("days with no stage ahead", 0, w.days(20));
        due("the seed stays", 0, w.seed(0));
        due("days is no act", 2, w.about(10));
        TenArrows v = lined("A25055L009");
        v.seed(-1);
        // The upper 31 bits are taken without a sign.
        long next = -6364136223846793005L + 1442695040888963407L;
        due("days by a seed less than 0", (next >>> 33) % 10 < 9 ? 1 : 0, v.days(1));
        due("its seed", next, v.seed(0));
    }

    // ---- slots

    private static void keepAndAgain() {
        TenArrows x = lined("A25255L113L224L335");
        due("keep(2)", UNKNOWN, x.keep(2));
        due("keep(-1)", UNKNOWN, x.keep(-1));
        due("again(2)", UNKNOWN, x.again(2));
        due("again(-1)", UNKNOWN, x.again(-1));
        for (int far : FAR) {
            due("keep far", UNKNOWN, x.keep(far));
            due("again far", UNKNOWN, x.again(far));
        }
        due("again(0)", LATE, x.again(0));
        x.lay();
        x.lose();
        x.lay();
        x.stretch(2);
        x.knot();
        x.change();
        x.doubled();
        due("keep(1)", 2, x.keep(1));
        due("keep leaves the acts", 7, x.about(10));
        due("again(0): none kept", LATE, x.again(0));
        int[] kept = {2, 3, 2, 0, 1, 1, 1, 1, 52, 3, 0};
        x.lay();
        x.clear();
        x.find(0);
        x.change();
        x.stretch(-3);
        x.doubled();
        due("again(1)", 2, x.again(1));
        dueAbout("again", x, kept);
        due("errors again", 19997, x.stage(0, 3));
        due("errors again", 19996, x.stage(1, 3));
        due("errors again", NONE, x.stage(2, 3));
        due("no acts", LATE, x.undo());
        // The kept errors stand even when other ones are laid over them.
        x.again(1);
        x.line();
        x.lay();
        x.keep(0);
        x.undo();
        x.stretch(3);
        due("lay otherwise", 20000, x.lay());
        due("keep(1)", 1, x.keep(1));
        due("again(0)", 1, x.again(0));
        due("the first one's error", 19997, x.stage(0, 3));
        due("again(1)", 1, x.again(1));
        due("the second one's error", 20000, x.stage(0, 3));
        due("again twice", 1, x.again(1));
        x.lay();
        due("keep(1) over it", 2, x.keep(1));
        due("again(1)", 2, x.again(1));
        x.seed(5);
        x.test(0, 0);
        x.write('A');
        int bytes = x.about(12);
        x.again(0);
        due("seed is not kept", 5, x.seed(0));
        due("tests are not kept", 1, x.about(11));
        due("the text is not kept", bytes, x.about(12));
    }

    // ---- refusals

    private static void orderOfRefusals() {
        TenArrows x = lined("A25055L000");
        due("stage: UNKNOWN first", UNKNOWN, x.stage(1, 5));
        due("share: UNKNOWN first", UNKNOWN, x.share(4, 9, true));
        due("shows: UNKNOWN first", UNKNOWN, x.shows(1, 1));
        due("where: UNKNOWN first", UNKNOWN, x.where(0, true));
        due("back: BAD first", BAD, x.back(11));
        due("find: UNKNOWN first", UNKNOWN, x.find(1));
        due("again: UNKNOWN first", UNKNOWN, x.again(2));
        for (int i = 0; i < 3; i++) {
            x.stretch(3);
        }
        due("stretch: BAD first", BAD, x.stretch(4));
        due("stretch: LATE", LATE, x.stretch(3));
    }

    private static void refusedChangesNothing() {
        TenArrows x = lined("A25955L001L002");
        x.lay();
        x.lose();
        x.test(3, 3);
        x.seed(11);
        x.stretch(3);
        x.stretch(3);
        x.stretch(3);
        x.write('x');
        String before = whole(x);
        x.write(256);
        x.line();
        x.lose();
        x.find(1);
        x.find(2);
        x.stretch(0);
        x.stretch(1);
        x.knot();
        x.test(8, 0);
        x.days(0);
        x.keep(2);
        x.again(0);
        x.again(2);
        checks.isTrue("what is refused changes nothing", before.equals(whole(x)));
        x.off(1, 2);
        x.ends(1, 0);
        x.step(5);
        x.share(1, 1, true);
        x.where(0, true);
        x.back(3);
        x.shows(0, 2);
        x.soonest();
        x.rests(1, 0);
        x.chance(1, 1, true);
        checks.isTrue("what is asked changes nothing", before.equals(whole(x)));
    }
}
