import java.math.BigInteger;
import java.util.ArrayDeque;
import java.util.ArrayList;
import java.util.Comparator;
import java.util.List;
import java.util.TreeMap;
import java.util.regex.Matcher;
import java.util.regex.Pattern;
import java.util.stream.IntStream;

/**
 * The document told a second time, slowly and by other means than the program's: arrows are things that lie
 * somewhere, shares go through all 24 orders, chances through all ways, undo goes through whole copies.
 */
final class Model {
    private static final int UNKNOWN = -1, BAD = -2, LATE = -3, FULL = -4, NONE = -9;
    private static final Pattern LINE = Pattern.compile("A[2-9][0-9]{4}(L[0-3][0-9][0-9]){0,8}");

    private record Ground(int kind, int v, int gorse) {
        int error() {
            return switch (kind) {
                case 0 -> 0;
                case 1 -> -(v * v);
                case 2 -> -v;
                default -> -(v + v);
            };
        }
    }

    /** All that acts change. Lists and maps in it are never changed, only replaced. */
    private record State(List<Integer> hand, List<Integer> back, TreeMap<Integer, Integer> lost, int tally,
                         List<Integer> errors, int lead, int stretch, int knots) { }

    private record Test(int stage, int e) { }

    private String text = "";
    private int arrows = 2, toldStretch = 0;
    private final int[] bent = {0, 0};
    private List<Ground> grounds = List.of();
    private State now = fresh(0, 0);
    private final ArrayDeque<State> acts = new ArrayDeque<>();
    private final State[] slots = new State[2];
    private final List<Test> tests = new ArrayList<>();
    private BigInteger seed = BigInteger.ZERO;

    private State fresh(int stretch, int knots) {
        return new State(IntStream.range(0, arrows).boxed().toList(), List.of(), new TreeMap<>(), 0, List.of(), 0,
            stretch, knots);
    }

    private int place() {
        return now.errors.size();
    }

    private int ahead() {
        return grounds.size() - place();
    }

    private boolean isStage(int stage) {
        return 0 <= stage && stage < grounds.size();
    }

    private int act(State next, int answer) {
        if (acts.size() == 14) {
            acts.removeFirst();
        }
        acts.addLast(now);
        now = next;
        return answer;
    }

    // ---- the line

    int write(int letter) {
        if (letter != (letter & 255)) return BAD;
        if (text.length() == 40) return FULL;
        text = text + (char) letter;
        return text.length();
    }

    int wipe() {
        int length = text.length();
        text = "";
        return length;
    }

    int fault() {
        for (int i = 0; i < text.length(); i++) {
            Matcher matcher = LINE.matcher(text.substring(0, i + 1));
            boolean whole = matcher.matches();
            if (!whole && !matcher.hitEnd()) return i;
        }
        return LINE.matcher(text).matches() ? NONE : text.length();
    }

    int line() {
        if (!LINE.matcher(text).matches()) return LATE;
        arrows = text.charAt(1) - '0';
        toldStretch = text.charAt(2) - '0' - 5;
        bent[0] = text.charAt(4) - '0' - 5;
        bent[1] = text.charAt(5) - '0' - 5;
        List<Ground> made = new ArrayList<>();
        for (String part : text.substring(6).split("L")) {
            if (!part.isEmpty()) {
                made.add(new Ground(part.charAt(0) - '0', part.charAt(1) - '0', part.charAt(2) - '0'));
            }
        }
        grounds = made;
        now = fresh(toldStretch, text.charAt(3) - '0');
        acts.clear();
        slots[0] = null;
        slots[1] = null;
        return made.size();
    }

    int about(int what) {
        int[] all = {arrows, grounds.size(), place(), now.hand.size(), now.back.size(), now.tally,
            now.lost.keySet().stream().mapToInt(stage -> 1 << stage).sum(), now.lead, 50 + now.stretch, now.knots,
            acts.size(), tests.size(), text.length(), 5 + bent[0], 5 + bent[1]};
        return what < 0 || what >= all.length ? BAD : all[what];
    }

    int stage(int stage, int what) {
        if (!isStage(stage)) return UNKNOWN;
        Ground ground = grounds.get(stage);
        int[] all = {ground.kind, ground.v, ground.gorse,
            stage < place() ? 20000 + now.errors.get(stage) : NONE, now.lost.containsKey(stage) ? 1 : 0};
        return what < 0 || what >= all.length ? BAD : all[what];
    }

    int byBook() {
        return arrows * now.tally + now.back.size();
    }

    int truly() {
        return 20000 + now.errors.stream().mapToInt(error -> 1000 + error).sum();
    }

    // ---- acts

    int lay() {
        if (ahead() == 0 || now.hand.isEmpty() && now.back.isEmpty()) return LATE;
        boolean refill = now.hand.isEmpty();
        List<Integer> hand = new ArrayList<>(refill ? now.back : now.hand);
        List<Integer> back = new ArrayList<>(refill ? List.of() : now.back);
        back.add(hand.remove(0));
        int error = now.stretch + grounds.get(place()).error() + bent[now.lead] - now.knots;
        List<Integer> errors = new ArrayList<>(now.errors);
        errors.add(error);
        return act(new State(hand, back, now.lost, now.tally + (refill ? 1 : 0), errors, now.lead, now.stretch,
            now.knots), 20000 + error);
    }

    int lose() {
        int last = place() - 1;
        if (last < 0 || now.lost.containsKey(last)) return LATE;
        List<Integer> back = new ArrayList<>(now.back);
        TreeMap<Integer, Integer> lost = new TreeMap<>(now.lost);
        lost.put(last, back.remove(back.size() - 1));
        return act(new State(now.hand, back, lost, now.tally, now.errors, now.lead, now.stretch, now.knots),
            back.size());
    }

    int find(int stage) {
        if (!isStage(stage)) return UNKNOWN;
        if (!now.lost.containsKey(stage)) return LATE;
        List<Integer> back = new ArrayList<>(now.back);
        TreeMap<Integer, Integer> lost = new TreeMap<>(now.lost);
        back.add(lost.remove(stage));
        return act(new State(now.hand, back, lost, now.tally, now.errors, now.lead, now.stretch, now.knots),
            back.size());
    }

    private int turn(int tally, int lead, int stretch, int knots, int answer) {
        return act(new State(now.hand, now.back, now.lost, tally, now.errors, lead, stretch, knots), answer);
    }

    int doubled() {
        return turn(now.tally + 1, now.lead, now.stretch, now.knots, now.tally + 1);
    }

    int change() {
        return turn(now.tally, now.lead ^ 1, now.stretch, now.knots, now.lead ^ 1);
    }

    int stretch(int d) {
        if (!List.of(-3, -2, -1, 1, 2, 3).contains(d)) return BAD;
        int then = now.stretch + d;
        if (then < -9 || then > 9) return LATE;
        return turn(now.tally, now.lead, then, now.knots, 50 + then);
    }

    int knot() {
        if (now.knots == 9) return FULL;
        return turn(now.tally, now.lead, now.stretch, now.knots + 1, now.knots + 1);
    }

    int clear() {
        if (now.knots == 0) return LATE;
        return turn(now.tally, now.lead, now.stretch, 0, now.knots);
    }

    int undo() {
        if (acts.isEmpty()) return LATE;
        now = acts.removeLast();
        return acts.size();
    }

    // ---- ahead

    private int offBy(int n, int plan) {
        int sum = 0;
        for (int k = place(); k < place() + n; k++) {
            sum += now.stretch + grounds.get(k).error() + bent[plan / (1 << k) % 2] - now.knots;
        }
        return sum;
    }

    int off(int n, int plan) {
        if (n < 0 || n > ahead() || plan < 0 || plan > 255) return BAD;
        return 20000 + offBy(n, plan);
    }

    private int changesOf(int n, int plan) {
        int changes = 0;
        int lead = now.lead;
        for (int k = place(); k < place() + n; k++) {
            int next = plan / (1 << k) % 2;
            changes += next == lead ? 0 : 1;
            lead = next;
        }
        return changes;
    }

    int ends(int n, int what) {
        if (n < 0 || n > ahead() || what != 0 && what != 1) return BAD;
        int others = 255;
        for (int k = place(); k < place() + n; k++) {
            others -= 1 << k;
        }
        int mask = others;
        Comparator<Integer> order = Comparator.<Integer>comparingInt(plan -> Math.abs(offBy(n, plan)))
            .thenComparingInt(plan -> changesOf(n, plan)).thenComparingInt(plan -> plan);
        int plan = IntStream.range(0, 256).filter(bits -> (bits & mask) == 0).boxed().min(order).orElseThrow();
        return what == 0 ? plan : 20000 + offBy(n, plan);
    }

    private int offStepped(int set) {
        int sum = 0;
        for (int k = place(); k < grounds.size(); k++) {
            Ground ground = grounds.get(k);
            Ground as = set / (1 << k) % 2 == 1 ? new Ground(2, ground.v, 0) : ground;
            sum += now.stretch + as.error() + bent[now.lead] - now.knots;
        }
        return sum;
    }

    int step(int x) {
        if (x < 0 || x > 99) return BAD;
        return IntStream.range(0, 256)
            .filter(set -> IntStream.range(0, 8).allMatch(k ->
                set / (1 << k) % 2 == 0 || k >= place() && k < grounds.size() && grounds.get(k).kind == 1))
            .filter(set -> Math.abs(offStepped(set)) <= x).boxed()
            .min(Comparator.<Integer>comparingInt(Integer::bitCount).thenComparingInt(set -> set)).orElse(NONE);
    }

    private static int told(long top, long bottom, boolean upper) {
        long divisor = BigInteger.valueOf(top).gcd(BigInteger.valueOf(bottom)).longValueExact();
        return Math.toIntExact((upper ? top : bottom) / divisor);
    }

    int share(int source, int n, boolean upper) {
        if (source < 0 || source > 3) return UNKNOWN;
        if (n < 0 || n > ahead()) return BAD;
        int ground = 0;
        for (int k = place(); k < place() + n; k++) {
            ground += grounds.get(k).error();
        }
        int[] makes = {n * now.stretch, ground, n * bent[now.lead], -n * now.knots};
        int sum = 0;
        int orders = 0;
        for (int order = 0; order < 256; order++) {
            int[] row = {order & 3, order >> 2 & 3, order >> 4 & 3, order >> 6};
            if (IntStream.of(row).distinct().count() < 4) continue;
            orders++;
            int together = 0;
            for (int one : row) {
                int then = together + makes[one];
                if (one == source) sum += Math.abs(then) - Math.abs(together);
                together = then;
            }
        }
        return told(sum, orders, upper);
    }

    private int gorseFrom(int first) {
        return IntStream.range(first, place()).map(k -> grounds.get(k).gorse).sum();
    }

    int where(int stage, boolean upper) {
        if (stage < 0 || stage >= place()) return UNKNOWN;
        if (gorseFrom(0) == 0) return LATE;
        return told(grounds.get(stage).gorse, gorseFrom(0), upper);
    }

    int back(int x) {
        if (x < 1 || x > 10) return BAD;
        if (gorseFrom(0) == 0) return LATE;
        int first = place();
        while (gorseFrom(first) * 10 < x * gorseFrom(0)) {
            first--;
        }
        return place() - first;
    }

    int shows(int stage, int m) {
        if (!isStage(stage)) return UNKNOWN;
        if (m < 2 || m > 9) return BAD;
        Model other = new Model();
        other.arrows = m;
        other.grounds = grounds;
        other.now = other.fresh(0, 0);
        for (int k = 0; k < grounds.size(); k++) {
            if (other.now.hand.isEmpty() && other.now.back.size() != m) return k;
            other.lay();
            if (k == stage) other.lose();
        }
        return NONE;
    }

    int soonest() {
        int[] worst = new int[10];
        for (int m = 2; m <= 9; m++) {
            for (int stage = 0; stage < grounds.size(); stage++) {
                int shown = shows(stage, m);
                worst[m] = Math.max(worst[m], shown == NONE ? 9 : shown - stage);
            }
        }
        return IntStream.rangeClosed(2, 9).boxed().min(Comparator.comparingInt(m -> worst[m])).orElseThrow();
    }

    // ---- tests

    int test(int stage, int e) {
        if (stage < 0 || stage > 7 || e < -9 || e > 9) return BAD;
        if (tests.size() == 6) return FULL;
        tests.add(new Test(stage, e));
        return tests.size();
    }

    int untest() {
        int size = tests.size();
        tests.clear();
        return size;
    }

    int changes(int what) {
        if (what < 0 || what > 2) return BAD;
        List<int[]> pairs = new ArrayList<>();
        for (int stage = 0; stage <= 8; stage++) {
            for (int other = -9; other <= 9; other++) {
                int[] course = new int[8];
                for (int k = 0; k < 8; k++) {
                    course[k] = k < stage ? toldStretch : other;
                }
                if (tests.stream().allMatch(test -> course[test.stage] == test.e)) pairs.add(new int[] {stage, other});
            }
        }
        if (what == 0) return pairs.size();
        if (pairs.isEmpty()) return NONE;
        if (what == 1) return 100 * pairs.get(0)[0] + pairs.get(0)[1] + 50;
        return pairs.stream().mapToInt(pair -> 1 << pair[0]).reduce(0, (a, b) -> a | b);
    }

    // ---- rests, chances

    private int lossOf(int leader, int n, int[] mends) {
        int sum = 0;
        for (int i = 0; i < n; i++) {
            int leads = (now.lead + i) % 2;
            sum += now.stretch + grounds.get(place() + i).error() + bent[leads] + mends[leads] - now.knots;
        }
        return Math.abs(sum) + 2 * Math.abs(mends[leader]);
    }

    int rests(int n, int what) {
        if (n < 0 || n > ahead() || what != 0 && what != 1) return BAD;
        List<Integer> pairs = new ArrayList<>();
        for (int pair = 0; pair < 25; pair++) {
            int u = pair / 5 - 2;
            int w = pair % 5 - 2;
            boolean first = IntStream.rangeClosed(-2, 2)
                .noneMatch(o -> lossOf(0, n, new int[] {o, w}) < lossOf(0, n, new int[] {u, w}));
            boolean second = IntStream.rangeClosed(-2, 2)
                .noneMatch(o -> lossOf(1, n, new int[] {u, o}) < lossOf(1, n, new int[] {u, w}));
            if (first && second) pairs.add(10 * (u + 2) + w + 2);
        }
        if (what == 0) return pairs.size();
        return pairs.isEmpty() ? NONE : pairs.get(0);
    }

    int chance(int n, int m, boolean upper) {
        if (n < 1 || n > 6 || n > ahead() || m < 0 || m > 6) return BAD;
        long top = 0;
        long bottom = 1;
        for (int k = 0; k < n; k++) {
            bottom *= 10;
        }
        for (int set = 0; set < 1 << n; set++) {
            if (Integer.bitCount(set) != m) continue;
            long ways = 1;
            for (int k = 0; k < n; k++) {
                int gorse = grounds.get(place() + k).gorse;
                ways *= (set >> k & 1) == 1 ? gorse : 10 - gorse;
            }
            top += ways;
        }
        return told(top, bottom, upper);
    }

    long seed(long v) {
        long was = seed.longValue();
        seed = BigInteger.valueOf(v).mod(BigInteger.ONE.shiftLeft(64));
        return was;
    }

    int days(int m) {
        if (m < 1 || m > 20) return BAD;
        int losses = 0;
        for (int i = 0; i < m * ahead(); i++) {
            seed = seed.multiply(new BigInteger("6364136223846793005")).add(new BigInteger("1442695040888963407"))
                .mod(BigInteger.ONE.shiftLeft(64));
            int left = seed.shiftRight(33).mod(BigInteger.TEN).intValue();
            losses += left < grounds.get(place() + i % ahead()).gorse ? 1 : 0;
        }
        return losses;
    }

    // ---- slots

    int keep(int slot) {
        if (slot != 0 && slot != 1) return UNKNOWN;
        slots[slot] = now;
        return place();
    }

    int again(int slot) {
        if (slot != 0 && slot != 1) return UNKNOWN;
        if (slots[slot] == null) return LATE;
        now = slots[slot];
        acts.clear();
        return place();
    }
}
