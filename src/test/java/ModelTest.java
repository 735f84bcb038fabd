import java.util.ArrayList;
import java.util.List;
import java.util.Random;

/** Random runs of calls, by fixed seeds, on the program and on the model: every answer must be the same. */
public final class ModelTest {
    private static final int RUNS = 10000;
    /** So many calls one step of a run may take, a whole text among them, and the comparison at its end. */
    private static final int STEP_CALLS = 60;
    private static final int END_CALLS = 60;
    private static final int[] FAR = {Integer.MIN_VALUE, Integer.MAX_VALUE, -10, -2, 10, 100, 256};

    private final Checks checks;
    private final Random random;
    private final TenArrows program = new TenArrows();
    private final Model model = new Model();
    private final List<String> told = new ArrayList<>();
    private int calls = 0;

    private ModelTest(Checks checks, long seed) {
        this.checks = checks;
        this.random = new Random(seed);
    }

    public static void main(String[] args) {
        Checks checks = new Checks();
        for (int run = 0; run < RUNS && checks.allRight(); run++) {
            new ModelTest(checks, run).run();
        }
        checks.finish("ModelTest");
    }

    private void run() {
        if (random.nextInt(10) > 0) {
            spell(anyLine());
        }
        // Of an object nothing is promised behind its 512th call.
        while (calls + STEP_CALLS + END_CALLS <= Script.MOST_CALLS && checks.allRight()) {
            anyCall();
            compareSome();
        }
        compareAll();
        checks.isTrue("calls of one run: " + calls, calls <= Script.MOST_CALLS);
        if (!checks.allRight()) {
            told.forEach(System.out::println);
        }
    }

    private void same(String call, long got, long want) {
        calls++;
        told.add(call + " = " + got);
        checks.due(call, want, got);
    }

    private void compareSome() {
        int what = random.nextInt(15);
        int stage = random.nextInt(8);
        same("about(" + what + ")", program.about(what), model.about(what));
        same("stage(" + stage + ", 3)", program.stage(stage, 3), model.stage(stage, 3));
    }

    private void compareAll() {
        for (int what = 0; what <= 14; what++) {
            same("about(" + what + ")", program.about(what), model.about(what));
        }
        for (int stage = 0; stage < 8; stage++) {
            for (int what = 0; what <= 4; what++) {
                same("stage(" + stage + ", " + what + ")", program.stage(stage, what), model.stage(stage, what));
            }
        }
        same("byBook()", program.byBook(), model.byBook());
        same("truly()", program.truly(), model.truly());
        same("seed(0)", program.seed(0), model.seed(0));
    }

    private int digit() {
        return random.nextInt(10);
    }

    /** A number of least .. most, one beside them, or now and then one far off. */
    private int about(int least, int most) {
        if (random.nextInt(40) == 0) {
            return FAR[random.nextInt(FAR.length)];
        }
        if (random.nextInt(12) == 0) {
            return random.nextBoolean() ? least - 1 : most + 1;
        }
        return least + random.nextInt(most - least + 1);
    }

    private int ahead() {
        return Math.max(0, model.about(1) - model.about(2));
    }

    private String anyLine() {
        StringBuilder text = new StringBuilder("A").append(random.nextInt(8) == 0 ? 2 + random.nextInt(8) : 2 + random.nextInt(3));
        for (int i = 0; i < 4; i++) {
            text.append(i == 1 && random.nextBoolean() ? random.nextInt(3) : digit());
        }
        int stages = random.nextInt(3) == 0 ? random.nextInt(9) : 5 + random.nextInt(4);
        int gentle = random.nextInt(3);
        for (int i = 0; i < stages; i++) {
            text.append('L').append(random.nextInt(4)).append(gentle == 0 ? digit() : random.nextInt(4));
            text.append(gentle == 1 ? 0 : digit());
        }
        return text.toString();
    }

    private void spell(String text) {
        same("wipe()", program.wipe(), model.wipe());
        for (int i = 0; i < text.length(); i++) {
            int letter = text.charAt(i);
            same("write(" + letter + ")", program.write(letter), model.write(letter));
        }
        same("fault()", program.fault(), model.fault());
        same("line()", program.line(), model.line());
    }

    private void spoil() {
        StringBuilder text = new StringBuilder(anyLine());
        int at = random.nextInt(text.length());
        switch (random.nextInt(4)) {
            case 0: text.setLength(at); break;
            case 1: text.setCharAt(at, (char) random.nextInt(256)); break;
            case 2: text.deleteCharAt(at); break;
            default: text.append(random.nextInt(3) == 0 ? "L0" : "L");
        }
        text.setLength(Math.min(40, text.length()));
        spell(text.toString());
    }

    private void anyCall() {
        int pick = random.nextInt(100);
        if (pick < 1) {
            spell(anyLine());
        } else if (pick < 2) {
            spoil();
        } else if (pick < 5) {
            int letter = about(0, 255);
            same("write(" + letter + ")", program.write(letter), model.write(letter));
            same("fault()", program.fault(), model.fault());
        } else if (pick < 45) {
            anyAct();
        } else if (pick < 75) {
            askAhead();
        } else if (pick < 83) {
            askTests();
        } else if (pick < 95) {
            askChances();
        } else {
            anySlot();
        }
    }

    private void anyAct() {
        switch (random.nextInt(14)) {
            case 0: case 1: case 2: same("lay()", program.lay(), model.lay()); break;
            case 3: case 4: same("lose()", program.lose(), model.lose()); break;
            case 5: case 6:
                int stage = about(0, Math.max(0, model.about(2) - 1));
                same("find(" + stage + ")", program.find(stage), model.find(stage));
                break;
            case 7: same("doubled()", program.doubled(), model.doubled()); break;
            case 8: same("change()", program.change(), model.change()); break;
            case 9:
                int d = about(-3, 3);
                same("stretch(" + d + ")", program.stretch(d), model.stretch(d));
                break;
            case 10: same("knot()", program.knot(), model.knot()); break;
            case 11: same("clear()", program.clear(), model.clear()); break;
            default: same("undo()", program.undo(), model.undo());
        }
    }

    private void askAhead() {
        int n = about(0, ahead());
        int what = about(0, 1);
        boolean upper = random.nextBoolean();
        switch (random.nextInt(10)) {
            case 0:
                int plan = about(0, 255);
                same("off(" + n + ", " + plan + ")", program.off(n, plan), model.off(n, plan));
                break;
            case 1: case 2: same("ends(" + n + ", " + what + ")", program.ends(n, what), model.ends(n, what)); break;
            case 3:
                int x = about(0, 99);
                same("step(" + x + ")", program.step(x), model.step(x));
                break;
            case 4:
                int source = about(0, 3);
                same("share(" + source + ", " + n + ", " + upper + ")", program.share(source, n, upper),
                    model.share(source, n, upper));
                break;
            case 5:
                int laid = about(0, Math.max(0, model.about(2)));
                same("where(" + laid + ", " + upper + ")", program.where(laid, upper), model.where(laid, upper));
                break;
            case 6:
                int tenths = about(1, 10);
                same("back(" + tenths + ")", program.back(tenths), model.back(tenths));
                break;
            case 7:
                int stage = about(0, 7);
                int m = about(2, 9);
                same("shows(" + stage + ", " + m + ")", program.shows(stage, m), model.shows(stage, m));
                break;
            case 8: same("soonest()", program.soonest(), model.soonest()); break;
            default:
                same("byBook()", program.byBook(), model.byBook());
                same("truly()", program.truly(), model.truly());
                int which = about(0, 4);
                int any = about(0, 7);
                same("stage(" + any + ", " + which + ")", program.stage(any, which), model.stage(any, which));
        }
    }

    private void askTests() {
        int what = about(0, 2);
        switch (random.nextInt(6)) {
            case 0: case 1: case 2:
                int stage = about(0, 7);
                int e = random.nextBoolean() ? model.about(8) - 50 : about(-9, 9);
                same("test(" + stage + ", " + e + ")", program.test(stage, e), model.test(stage, e));
                break;
            case 3: same("untest()", program.untest(), model.untest()); break;
            default: break;
        }
        same("changes(" + what + ")", program.changes(what), model.changes(what));
    }

    private void askChances() {
        boolean upper = random.nextBoolean();
        switch (random.nextInt(4)) {
            case 0:
                int n = about(0, ahead());
                int what = about(0, 1);
                same("rests(" + n + ", " + what + ")", program.rests(n, what), model.rests(n, what));
                break;
            case 1:
                int of = about(1, 6);
                int m = about(0, 6);
                same("chance(" + of + ", " + m + ", " + upper + ")", program.chance(of, m, upper),
                    model.chance(of, m, upper));
                break;
            case 2:
                long v = random.nextInt(3) == 0 ? random.nextInt(10) : random.nextLong();
                same("seed(" + v + ")", program.seed(v), model.seed(v));
                break;
            default:
                int days = about(1, 20);
                same("days(" + days + ")", program.days(days), model.days(days));
        }
    }

    private void anySlot() {
        int slot = about(0, 1);
        if (random.nextBoolean()) {
            same("keep(" + slot + ")", program.keep(slot), model.keep(slot));
        } else {
            same("again(" + slot + ")", program.again(slot), model.again(slot));
        }
    }
}
