/** A line measured with chain and arrows: told as a text, laid, asked about, undone, kept. */
public final class TenArrows {
    public static final int UNKNOWN = -1, BAD = -2, LATE = -3, FULL = -4, NONE = -9;

    private static final int MOST_BYTES = 40;
    private static final int HEAD_BYTES = 6;
    private static final int STAGE_BYTES = 4;
    private static final int MOST_STAGES = 8;
    private static final int MOST_ACTS = 14;
    private static final int MOST_TESTS = 6;
    private static final int SLOTS = 2;
    private static final int SOURCES = 4;
    private static final int MOST_KNOTS = 9;
    private static final int LEAST_ARROWS = 2;
    private static final int MOST_ARROWS = 9;
    private static final int MOST_STRETCH = 9;
    private static final int MOST_PULL = 3;
    private static final int MOST_PLAN = 255;
    private static final int MOST_CHANCE = 6;
    private static final int MOST_DAYS = 20;
    private static final int MOST_STEP = 99;
    private static final int MOST_MEND = 2;
    private static final int CHAIN = 1000;

    private static final int ERROR_TOLD = 20000;
    private static final int STRETCH_TOLD = 50;
    private static final int DIGIT_TOLD = 5;

    private static final int LEVEL = 0;
    private static final int ASLANT = 1;
    private static final int STEPPED = 2;
    private static final int ROUND = 3;

    private static final long SEED_TIMES = 6364136223846793005L;
    private static final long SEED_MORE = 1442695040888963407L;

    private final Text text;
    private final Land land;
    private final Work now;
    private final Acts acts;
    private final Slots slots;
    private final Tests tests;
    private final Ahead ahead;
    private final Laid laid;
    private final Mending mending;
    private long seed;

    public TenArrows() {
        text = new Text();
        land = new Land();
        now = new Work();
        acts = new Acts();
        slots = new Slots();
        tests = new Tests();
        ahead = new Ahead(land, now);
        laid = new Laid(land, now);
        mending = new Mending(ahead);
        seed = 0L;
        now.begin(land);
    }

    // ---- the line

    public int write(int letter) {
        if (letter < 0 || letter > 255) {
            return BAD;
        }
        return text.append(letter) ? text.length : FULL;
    }

    public int wipe() {
        int length = text.length;
        text.length = 0;
        return length;
    }

    public int fault() {
        return text.firstFault();
    }

    public int line() {
        if (text.firstFault() != NONE) {
            return LATE;
        }
        land.read(text);
        now.begin(land);
        acts.forget();
        slots.forget();
        return land.stages;
    }

    public int about(int what) {
        switch (what) {
            case 0: return land.arrows;
            case 1: return land.stages;
            case 2: return now.place;
            case 3: return now.hand;
            case 4: return now.back;
            case 5: return now.tally;
            case 6: return now.lost;
            case 7: return now.leader;
            case 8: return now.stretch + STRETCH_TOLD;
            case 9: return now.knots;
            case 10: return acts.count;
            case 11: return tests.count;
            case 12: return text.length;
            case 13: return land.bentOf(0) + DIGIT_TOLD;
            case 14: return land.bentOf(1) + DIGIT_TOLD;
            default: return BAD;
        }
    }

    public int stage(int stage, int what) {
        if (!land.has(stage)) {
            return UNKNOWN;
        }
        switch (what) {
            case 0: return land.kindOf(stage);
            case 1: return land.valueOf(stage);
            case 2: return land.gorseOf(stage);
            case 3: return now.isLaid(stage) ? now.errorOf(stage) + ERROR_TOLD : NONE;
            case 4: return now.isLost(stage) ? 1 : 0;
            default: return BAD;
        }
    }

    public int byBook() {
        return land.arrows * now.tally + now.back;
    }

    public int truly() {
        return ERROR_TOLD + CHAIN * now.place + now.errorsTogether();
    }

    // ---- acts

    public int lay() {
        int stage = now.place;
        if (!land.has(stage) || now.hand + now.back <= 0) {
            return LATE;
        }
        acts.remember(now);
        int error = ahead.errorAt(stage, now.leader);
        now.pinAndPick(error);
        return error + ERROR_TOLD;
    }

    public int lose() {
        int last = now.place - 1;
        if (!now.isLaid(last) || now.isLost(last)) {
            return LATE;
        }
        acts.remember(now);
        now.leaveBehind(last);
        return now.back;
    }

    public int find(int stage) {
        if (!land.has(stage)) {
            return UNKNOWN;
        }
        if (!now.isLost(stage)) {
            return LATE;
        }
        acts.remember(now);
        now.bringBack(stage);
        return now.back;
    }

    public int doubled() {
        acts.remember(now);
        now.tally++;
        return now.tally;
    }

    public int change() {
        acts.remember(now);
        now.leader = 1 - now.leader;
        return now.leader;
    }

    public int stretch(int d) {
        if (d < -MOST_PULL || d > MOST_PULL || d == 0) {
            return BAD;
        }
        if (Math.abs(now.stretch + d) > MOST_STRETCH) {
            return LATE;
        }
        acts.remember(now);
        now.stretch += d;
        return now.stretch + STRETCH_TOLD;
    }

    public int knot() {
        if (now.knots >= MOST_KNOTS) {
            return FULL;
        }
        acts.remember(now);
        now.knots++;
        return now.knots;
    }

    public int clear() {
        int knots = now.knots;
        if (knots == 0) {
            return LATE;
        }
        acts.remember(now);
        now.knots = 0;
        return knots;
    }

    public int undo() {
        if (acts.count == 0) {
            return LATE;
        }
        acts.takeBack(now);
        return acts.count;
    }

    // ---- ahead

    public int off(int n, int plan) {
        if (!ahead.reaches(n) || plan < 0 || plan > MOST_PLAN) {
            return BAD;
        }
        return ahead.offBy(n, plan) + ERROR_TOLD;
    }

    public int ends(int n, int what) {
        if (!ahead.reaches(n) || what < 0 || what > 1) {
            return BAD;
        }
        int plan = ahead.bestPlan(n);
        return what == 0 ? plan : ahead.offBy(n, plan) + ERROR_TOLD;
    }

    public int step(int x) {
        if (x < 0 || x > MOST_STEP) {
            return BAD;
        }
        return ahead.fewestStepped(x);
    }

    public int share(int source, int n, boolean upper) {
        if (source < 0 || source >= SOURCES) {
            return UNKNOWN;
        }
        if (!ahead.reaches(n)) {
            return BAD;
        }
        return fraction(ahead.shareIn24ths(source, n), 24, upper);
    }

    public int where(int stage, boolean upper) {
        if (!now.isLaid(stage)) {
            return UNKNOWN;
        }
        int together = laid.gorseOfLast(now.place);
        if (together <= 0) {
            return LATE;
        }
        return fraction(land.gorseOf(stage), together, upper);
    }

    public int back(int x) {
        if (x < 1 || x > 10) {
            return BAD;
        }
        if (laid.gorseOfLast(now.place) <= 0) {
            return LATE;
        }
        return laid.howFarBack(x);
    }

    public int shows(int stage, int m) {
        if (!land.has(stage)) {
            return UNKNOWN;
        }
        if (m < LEAST_ARROWS || m > MOST_ARROWS) {
            return BAD;
        }
        return laid.firstShort(stage, m);
    }

    public int soonest() {
        return laid.bestArrows();
    }

    // ---- tests

    public int test(int stage, int e) {
        if (stage < 0 || stage >= MOST_STAGES || e < -MOST_STRETCH || e > MOST_STRETCH) {
            return BAD;
        }
        return tests.append(stage, e) ? tests.count : FULL;
    }

    public int untest() {
        int count = tests.count;
        tests.count = 0;
        return count;
    }

    public int changes(int what) {
        if (what < 0 || what > 2) {
            return BAD;
        }
        tests.seekChanges(land.stretch);
        switch (what) {
            case 0: return tests.changesFound;
            case 1: return tests.firstFound;
            default: return tests.stagesFound;
        }
    }

    // ---- rests, chances

    public int rests(int n, int what) {
        if (!ahead.reaches(n) || what < 0 || what > 1) {
            return BAD;
        }
        mending.seekRests(n);
        return what == 0 ? mending.restsFound : mending.firstFound;
    }

    public int chance(int n, int m, boolean upper) {
        if (n < 1 || n > MOST_CHANCE || !ahead.reaches(n) || m < 0 || m > MOST_CHANCE) {
            return BAD;
        }
        return fraction(ahead.waysToLose(n, m), powerOfTen(n), upper);
    }

    public long seed(long v) {
        long was = seed;
        seed = v;
        return was;
    }

    public int days(int m) {
        if (m < 1 || m > MOST_DAYS) {
            return BAD;
        }
        int losses = 0;
        for (int day = 0; day < m; day++) {
            losses += lossesOfDay();
        }
        return losses;
    }

    // ---- slots

    public int keep(int slot) {
        if (!slots.has(slot)) {
            return UNKNOWN;
        }
        slots.store(slot, now);
        return now.place;
    }

    public int again(int slot) {
        if (!slots.has(slot)) {
            return UNKNOWN;
        }
        if (!slots.holds(slot)) {
            return LATE;
        }
        slots.fetch(slot, now);
        acts.forget();
        return now.place;
    }

    private int lossesOfDay() {
        int losses = 0;
        for (int stage = now.place; stage < land.stages; stage++) {
            seed = seed * SEED_TIMES + SEED_MORE;
            if ((seed >>> 33) % 10 < land.gorseOf(stage)) {
                losses++;
            }
        }
        return losses;
    }

    private static int powerOfTen(int n) {
        int power = 1;
        for (int i = 0; i < n; i++) {
            power *= 10;
        }
        return power;
    }

    /** What stands above or below in top / bottom in least terms; bottom is more than 0. */
    private static int fraction(int top, int bottom, boolean upper) {
        int common = commonDivisor(Math.abs(top), bottom);
        if (common == 0) {
            return 0;
        }
        return upper ? top / common : bottom / common;
    }

    private static int commonDivisor(int a, int b) {
        int large = a;
        int small = b;
        // Euclid's steps on ints are fewer than 50.
        for (int i = 0; i < 64 && small != 0; i++) {
            int rest = large % small;
            large = small;
            small = rest;
        }
        return large;
    }

    /** THE TEXT, and what in it can be no LINE. */
    private static final class Text {
        private final int[] bytes = new int[MOST_BYTES];
        private int length = 0;

        boolean append(int letter) {
            if (length < 0 || length >= MOST_BYTES) {
                return false;
            }
            bytes[length] = letter;
            length++;
            return true;
        }

        int byteAt(int at) {
            return at >= 0 && at < length && at < MOST_BYTES ? bytes[at] : 0;
        }

        int digitAt(int at) {
            return byteAt(at) - '0';
        }

        int stages() {
            return (length - HEAD_BYTES) / STAGE_BYTES;
        }

        int firstFault() {
            for (int at = 0; at < length; at++) {
                if (!mayStand(at)) {
                    return at;
                }
            }
            return isWhole() ? NONE : length;
        }

        private boolean isWhole() {
            return length >= HEAD_BYTES && (length - HEAD_BYTES) % STAGE_BYTES == 0;
        }

        private boolean mayStand(int at) {
            if (at < HEAD_BYTES) {
                return mayStandInHead(at);
            }
            if (at >= HEAD_BYTES + MOST_STAGES * STAGE_BYTES) {
                return false;
            }
            switch ((at - HEAD_BYTES) % STAGE_BYTES) {
                case 0: return byteAt(at) == 'L';
                case 1: return isDigit(at, LEVEL, ROUND);
                default: return isDigit(at, 0, 9);
            }
        }

        private boolean mayStandInHead(int at) {
            switch (at) {
                case 0: return byteAt(at) == 'A';
                case 1: return isDigit(at, LEAST_ARROWS, MOST_ARROWS);
                default: return isDigit(at, 0, 9);
            }
        }

        private boolean isDigit(int at, int least, int most) {
            int digit = digitAt(at);
            return digit >= least && digit <= most;
        }
    }

    /** THE LINE as it was told: nothing in it is changed by ACTS. */
    private static final class Land {
        private int arrows = LEAST_ARROWS;
        private int stretch = 0;
        private int knots = 0;
        private int bentOfFirst = 0;
        private int bentOfSecond = 0;
        private int stages = 0;
        private final int[] kinds = new int[MOST_STAGES];
        private final int[] values = new int[MOST_STAGES];
        private final int[] gorse = new int[MOST_STAGES];
        private final int[] grounds = new int[MOST_STAGES];

        /** Takes a text without FAULT. */
        void read(Text text) {
            arrows = text.digitAt(1);
            stretch = text.digitAt(2) - DIGIT_TOLD;
            knots = text.digitAt(3);
            bentOfFirst = text.digitAt(4) - DIGIT_TOLD;
            bentOfSecond = text.digitAt(5) - DIGIT_TOLD;
            stages = Math.max(0, Math.min(MOST_STAGES, text.stages()));
            for (int stage = 0; stage < stages && stage < MOST_STAGES; stage++) {
                int at = HEAD_BYTES + STAGE_BYTES * stage;
                kinds[stage] = text.digitAt(at + 1);
                values[stage] = text.digitAt(at + 2);
                gorse[stage] = text.digitAt(at + 3);
                // Worked out here, once, so that the calls that ask for it go less deep.
                grounds[stage] = errorOfGround(kinds[stage], values[stage]);
            }
        }

        boolean has(int stage) {
            return stage >= 0 && stage < stages && stage < MOST_STAGES;
        }

        int kindOf(int stage) {
            return has(stage) ? kinds[stage] : LEVEL;
        }

        int valueOf(int stage) {
            return has(stage) ? values[stage] : 0;
        }

        int gorseOf(int stage) {
            return has(stage) ? gorse[stage] : 0;
        }

        int bentOf(int leader) {
            return leader == 0 ? bentOfFirst : bentOfSecond;
        }

        int groundAt(int stage) {
            return has(stage) ? grounds[stage] : 0;
        }

        int groundIfStepped(int stage) {
            return errorOfGround(STEPPED, valueOf(stage));
        }

        private static int errorOfGround(int kind, int v) {
            switch (kind) {
                case ASLANT: return -v * v;
                case STEPPED: return -v;
                case ROUND: return -2 * v;
                default: return 0;
            }
        }
    }

    /** All that ACTS change. */
    private static final class Work {
        private static final int HEAD_CELLS = 8;
        private static final int CELLS = HEAD_CELLS + MOST_STAGES;

        private int hand = 0;
        private int back = 0;
        private int tally = 0;
        private int place = 0;
        private int lost = 0;
        private int leader = 0;
        private int stretch = 0;
        private int knots = 0;
        private final int[] errors = new int[MOST_STAGES];

        void begin(Land land) {
            hand = land.arrows;
            back = 0;
            tally = 0;
            place = 0;
            lost = 0;
            leader = 0;
            stretch = land.stretch;
            knots = land.knots;
        }

        boolean isLaid(int stage) {
            return stage >= 0 && stage < place && stage < MOST_STAGES;
        }

        boolean isLost(int stage) {
            return isLaid(stage) && (lost >> stage & 1) == 1;
        }

        int errorOf(int stage) {
            return isLaid(stage) ? errors[stage] : 0;
        }

        int errorsTogether() {
            int together = 0;
            for (int stage = 0; stage < place; stage++) {
                together += errorOf(stage);
            }
            return together;
        }

        void pinAndPick(int error) {
            if (place < 0 || place >= MOST_STAGES) {
                return;
            }
            if (hand == 0) {
                hand = back;
                back = 0;
                tally++;
            }
            hand--;
            back++;
            errors[place] = error;
            place++;
        }

        void leaveBehind(int stage) {
            lost |= 1 << stage;
            back--;
        }

        void bringBack(int stage) {
            lost &= ~(1 << stage);
            back++;
        }

        void saveTo(int[] cells, int at) {
            if (at < 0 || at > cells.length - CELLS) {
                return;
            }
            cells[at] = hand;
            cells[at + 1] = back;
            cells[at + 2] = tally;
            cells[at + 3] = place;
            cells[at + 4] = lost;
            cells[at + 5] = leader;
            cells[at + 6] = stretch;
            cells[at + 7] = knots;
            System.arraycopy(errors, 0, cells, at + HEAD_CELLS, MOST_STAGES);
        }

        void loadFrom(int[] cells, int at) {
            if (at < 0 || at > cells.length - CELLS) {
                return;
            }
            hand = cells[at];
            back = cells[at + 1];
            tally = cells[at + 2];
            place = cells[at + 3];
            lost = cells[at + 4];
            leader = cells[at + 5];
            stretch = cells[at + 6];
            knots = cells[at + 7];
            System.arraycopy(cells, at + HEAD_CELLS, errors, 0, MOST_STAGES);
        }
    }

    /** The row of ACTS: for each of them how all was ahead of it. */
    private static final class Acts {
        private final int[] cells = new int[MOST_ACTS * Work.CELLS];
        private int first = 0;
        private int count = 0;

        void remember(Work work) {
            work.saveTo(cells, startOf(count));
            // In a full row the new act has taken the first one's cells.
            if (count == MOST_ACTS) {
                first = (first + 1) % MOST_ACTS;
            } else {
                count++;
            }
        }

        void takeBack(Work work) {
            if (count == 0) {
                return;
            }
            count--;
            work.loadFrom(cells, startOf(count));
        }

        void forget() {
            first = 0;
            count = 0;
        }

        private int startOf(int act) {
            return (first + act) % MOST_ACTS * Work.CELLS;
        }
    }

    /** SLOTS, each with what was kept in it. */
    private static final class Slots {
        private final int[] cells = new int[SLOTS * Work.CELLS];
        private int filled = 0;

        boolean has(int slot) {
            return slot >= 0 && slot < SLOTS;
        }

        boolean holds(int slot) {
            return has(slot) && (filled >> slot & 1) == 1;
        }

        void store(int slot, Work work) {
            work.saveTo(cells, slot * Work.CELLS);
            filled |= 1 << slot;
        }

        void fetch(int slot, Work work) {
            work.loadFrom(cells, slot * Work.CELLS);
        }

        void forget() {
            filled = 0;
        }
    }

    /** TESTS of STRETCH, and the CHANGES by which they are so. */
    private static final class Tests {
        private final int[] stages = new int[MOST_TESTS];
        private final int[] stretches = new int[MOST_TESTS];
        private int count = 0;
        private int changesFound = 0;
        private int firstFound = NONE;
        private int stagesFound = NONE;

        boolean append(int stage, int e) {
            if (count < 0 || count >= MOST_TESTS) {
                return false;
            }
            stages[count] = stage;
            stretches[count] = e;
            count++;
            return true;
        }

        void seekChanges(int told) {
            changesFound = 0;
            firstFound = NONE;
            stagesFound = NONE;
            for (int from = 0; from <= MOST_STAGES; from++) {
                for (int other = -MOST_STRETCH; other <= MOST_STRETCH; other++) {
                    if (allAreSo(told, from, other)) {
                        countChange(from, other);
                    }
                }
            }
        }

        private void countChange(int from, int other) {
            if (changesFound == 0) {
                firstFound = 100 * from + other + STRETCH_TOLD;
                stagesFound = 0;
            }
            changesFound++;
            stagesFound |= 1 << from;
        }

        private boolean allAreSo(int told, int from, int other) {
            for (int i = 0; i < count && i < MOST_TESTS; i++) {
                int due = stages[i] < from ? told : other;
                if (stretches[i] != due) {
                    return false;
                }
            }
            return true;
        }
    }

    /** What is asked of STAGES AHEAD. */
    private static final class Ahead {
        private final Land land;
        private final Work now;
        private final int[] ways = new int[MOST_CHANCE + 1];

        Ahead(Land land, Work now) {
            this.land = land;
            this.now = now;
        }

        boolean reaches(int n) {
            return n >= 0 && n <= land.stages - now.place;
        }

        int errorAt(int stage, int leader) {
            return now.stretch + land.groundAt(stage) + land.bentOf(leader) - now.knots;
        }

        int offBy(int n, int plan) {
            int off = 0;
            for (int stage = now.place; stage < now.place + n; stage++) {
                off += errorAt(stage, leaderBy(plan, stage));
            }
            return off;
        }

        /** The plan of n STAGES in which LEADERS take turns, who leads now first. */
        int planByTurns(int n) {
            int plan = 0;
            int leader = now.leader;
            for (int stage = now.place; stage < now.place + n; stage++) {
                plan |= leader << stage;
                leader = 1 - leader;
            }
            return plan;
        }

        int bestPlan(int n) {
            int best = 0;
            int offAllFirst = offBy(n, 0);
            int moreBySecond = land.bentOf(1) - land.bentOf(0);
            int bestOff = Math.abs(offAllFirst);
            int bestTurns = turnsIn(n, 0);
            for (int bits = 1; bits < 1 << n; bits++) {
                // Who leads adds a BENT and no more: only how often matters, not where.
                int off = Math.abs(offAllFirst + Integer.bitCount(bits) * moreBySecond);
                int turns = turnsIn(n, bits);
                // Plans come from the least on, so that a like one must not take the place.
                if (off < bestOff || off == bestOff && turns < bestTurns) {
                    best = bits << now.place;
                    bestOff = off;
                    bestTurns = turns;
                }
            }
            return best;
        }

        int fewestStepped(int x) {
            int best = NONE;
            int fewest = MOST_STAGES + 1;
            int n = land.stages - now.place;
            int off = offBy(n, now.leader == 0 ? 0 : MOST_PLAN);
            int aslant = aslantBits();
            for (int bits = 0; bits < 1 << n; bits++) {
                int stepped = bits << now.place;
                boolean fits = (stepped & ~aslant) == 0 && Integer.bitCount(stepped) < fewest;
                if (fits && Math.abs(off + moreByStepping(stepped)) <= x) {
                    best = stepped;
                    fewest = Integer.bitCount(stepped);
                }
            }
            return best;
        }

        /** SHARE is a mean over 24 orders: a set of s ahead of the source stands in s! (3 - s)! of them. */
        int shareIn24ths(int source, int n) {
            int sum = 0;
            for (int set = 0; set < 1 << SOURCES; set++) {
                if ((set >> source & 1) == 0) {
                    int more = madeBy(set | 1 << source, n) - madeBy(set, n);
                    sum += ordersAround(Integer.bitCount(set)) * more;
                }
            }
            return sum;
        }

        /** In how many of the 10 to the n ways, each as likely, just m ARROWS are lost. */
        int waysToLose(int n, int m) {
            for (int i = 0; i <= MOST_CHANCE; i++) {
                ways[i] = i == 0 ? 1 : 0;
            }
            for (int stage = now.place; stage < now.place + n; stage++) {
                int gorse = land.gorseOf(stage);
                for (int i = MOST_CHANCE; i >= 1; i--) {
                    ways[i] = ways[i] * (10 - gorse) + ways[i - 1] * gorse;
                }
                ways[0] *= 10 - gorse;
            }
            return m >= 0 && m <= MOST_CHANCE ? ways[m] : 0;
        }

        private int leaderBy(int plan, int stage) {
            return plan >> stage & 1;
        }

        /** How often who leads changes, from who leads now on; bit 0 is the first STAGE AHEAD. */
        private int turnsIn(int n, int bits) {
            int oneBefore = bits << 1 | now.leader;
            int ofTheStages = (1 << n) - 1;
            return Integer.bitCount((bits ^ oneBefore) & ofTheStages);
        }

        private int aslantBits() {
            int bits = 0;
            for (int stage = now.place; stage < land.stages; stage++) {
                if (land.kindOf(stage) == ASLANT) {
                    bits |= 1 << stage;
                }
            }
            return bits;
        }

        /** By how much OFF is more when these ASLANT STAGES are STEPPED. */
        private int moreByStepping(int stepped) {
            int more = 0;
            for (int stage = now.place; stage < land.stages; stage++) {
                if ((stepped >> stage & 1) == 1) {
                    more += land.groundIfStepped(stage) - land.groundAt(stage);
                }
            }
            return more;
        }

        /** What a set of SOURCES makes together, whatever its sign. */
        private int madeBy(int set, int n) {
            int made = 0;
            for (int source = 0; source < SOURCES; source++) {
                if ((set >> source & 1) == 1) {
                    made += madeByOne(source, n);
                }
            }
            return Math.abs(made);
        }

        private int madeByOne(int source, int n) {
            switch (source) {
                case 0: return n * now.stretch;
                case 1: return groundOf(n);
                case 2: return n * land.bentOf(now.leader);
                default: return -n * now.knots;
            }
        }

        private int groundOf(int n) {
            int ground = 0;
            for (int stage = now.place; stage < now.place + n; stage++) {
                ground += land.groundAt(stage);
            }
            return ground;
        }

        private static int ordersAround(int before) {
            return before == 0 || before == SOURCES - 1 ? 6 : 2;
        }
    }

    /** What is asked of lost ARROWS. */
    private static final class Laid {
        private static final int NEVER_SHOWN = 9;

        private final Land land;
        private final Work now;

        Laid(Land land, Work now) {
            this.land = land;
            this.now = now;
        }

        int gorseOfLast(int many) {
            int together = 0;
            for (int stage = now.place - many; stage < now.place; stage++) {
                together += land.gorseOf(stage);
            }
            return together;
        }

        int howFarBack(int tenths) {
            int due = tenths * gorseOfLast(now.place);
            for (int many = 0; many < now.place; many++) {
                if (10 * gorseOfLast(many) >= due) {
                    return many;
                }
            }
            return now.place;
        }

        /** Lays all STAGES with m ARROWS, that of one STAGE lost: where HAND is first not full. */
        int firstShort(int lostAt, int m) {
            int hand = m;
            int back = 0;
            for (int stage = 0; stage < land.stages; stage++) {
                if (hand == 0) {
                    hand = back;
                    back = 0;
                    if (hand != m) {
                        return stage;
                    }
                }
                hand--;
                if (stage != lostAt) {
                    back++;
                }
            }
            return NONE;
        }

        int bestArrows() {
            int best = LEAST_ARROWS;
            int bestWait = worstWait(LEAST_ARROWS);
            for (int m = LEAST_ARROWS + 1; m <= MOST_ARROWS; m++) {
                int wait = worstWait(m);
                if (wait < bestWait) {
                    best = m;
                    bestWait = wait;
                }
            }
            return best;
        }

        private int worstWait(int m) {
            int worst = 0;
            for (int stage = 0; stage < land.stages; stage++) {
                int shown = firstShort(stage, m);
                worst = Math.max(worst, shown == NONE ? NEVER_SHOWN : shown - stage);
            }
            return worst;
        }
    }

    /** Two LEADERS who mend their BENT: u is what LEADER 0 mends, w what LEADER 1 does. */
    private static final class Mending {
        private final Ahead ahead;
        private int offUnmended = 0;
        private int turnsOfFirst = 0;
        private int turnsOfSecond = 0;
        private int restsFound = 0;
        private int firstFound = NONE;

        Mending(Ahead ahead) {
            this.ahead = ahead;
        }

        void seekRests(int n) {
            int plan = ahead.planByTurns(n);
            offUnmended = ahead.offBy(n, plan);
            turnsOfSecond = Integer.bitCount(plan);
            turnsOfFirst = n - turnsOfSecond;
            restsFound = 0;
            firstFound = NONE;
            for (int u = -MOST_MEND; u <= MOST_MEND; u++) {
                for (int w = -MOST_MEND; w <= MOST_MEND; w++) {
                    if (isAtRest(u, w)) {
                        countRest(u, w);
                    }
                }
            }
        }

        private void countRest(int u, int w) {
            if (restsFound == 0) {
                firstFound = 10 * (u + MOST_MEND) + w + MOST_MEND;
            }
            restsFound++;
        }

        private boolean isAtRest(int u, int w) {
            for (int other = -MOST_MEND; other <= MOST_MEND; other++) {
                if (lossOf(other, offMended(other, w)) < lossOf(u, offMended(u, w))) {
                    return false;
                }
                if (lossOf(other, offMended(u, other)) < lossOf(w, offMended(u, w))) {
                    return false;
                }
            }
            return true;
        }

        private int offMended(int u, int w) {
            return offUnmended + turnsOfFirst * u + turnsOfSecond * w;
        }

        private static int lossOf(int mended, int off) {
            return Math.abs(off) + 2 * Math.abs(mended);
        }
    }
}
