import java.math.BigInteger;

/** Boundary cases of promises 30 to 33: leaders at rest, chances, days by a seed. */
public final class ChanceEdgesTest extends Edges {
    private static final BigInteger TIMES = new BigInteger("6364136223846793005");
    private static final BigInteger MORE = new BigInteger("1442695040888963407");

    public static void main(String[] args) {
        runAll(ChanceEdgesTest.class);
    }

    private static BigInteger unsigned(BigInteger any) {
        return any.mod(BigInteger.ONE.shiftLeft(64));
    }

    private static BigInteger next(BigInteger seed) {
        return unsigned(seed.multiply(TIMES).add(MORE));
    }

    // ---- promise 30

    @Holds(promise = 30, says = "BAD: n (0 .. STAGES AHEAD), what.")
    static void restsOfAsManyAsAreAheadAndOneMore() {
        dueEach("", "rests(0,0)=1 rests(0,1)=22 rests(1,0)=-2 rests(-1,0)=-2");
        dueEach("'A25055L000L000' line()", "rests(2,0)=1 rests(3,0)=-2 lay()=20000 rests(2,0)=-2 rests(1,0)=1 "
            + "lay()=20000 rests(1,0)=-2 rests(0,0)=1");
        for (int far : FAR) {
            dueBehind(lined("A25055", "L000", 8), "rests(" + far + ",0)", BAD);
        }
    }

    @Holds(promise = 30, says = "BAD: n (0 .. STAGES AHEAD), what.")
    static void restsRefusesWhatIsTooSmallOrTooLarge() {
        dueEach("'A25055L000' line()", "rests(1,-1)=-2 rests(1,2)=-2 rests(1,0)=1 rests(1,1)=22");
        for (int far : FAR) {
            dueBehind("'A25055L000' line()", "rests(1," + far + ")", BAD);
        }
    }

    @Holds(promise = 30, says = "RESTS for n STAGES AHEAD: each LEADER mends its BENT by u (-2 .. 2) alone")
    static void restsAtTheLeastAndTheMostMend() {
        // Eight STAGES, four turns each: a mend of 1 takes 4 from OFF and costs 2; OFF is far from 0.
        dueEach(lined("A25099", "L000", 8), "rests(8,0)=1 rests(8,1)=0");
        dueEach(lined("A25000", "L000", 8), "rests(8,0)=1 rests(8,1)=44");
    }

    @Holds(promise = 30, says = "each loses OFF, whatever its sign, and twice what it mended, whatever its sign")
    static void restsWhereAMendCostsJustWhatItTakes() {
        // Four STAGES, two turns each: any mend of the right sign is like none.
        dueEach(lined("A25099", "L000", 4), "rests(4,0)=9 rests(4,1)=0");
        dueEach(lined("A25000", "L000", 4), "rests(4,0)=9 rests(4,1)=22");
    }

    @Holds(promise = 30, says = "each loses OFF, whatever its sign, and twice what it mended, whatever its sign")
    static void restsWhereAMendCostsMoreThanItTakes() {
        dueEach(lined("A25099", "L190", 2), "rests(1,0)=1 rests(1,1)=22 rests(2,0)=1 rests(2,1)=22");
    }

    @Holds(promise = 30, says = "they lead by turns, who leads now first")
    static void restsOfWhoHasOneTurnMore() {
        // Five STAGES: three turns of who leads now, who mends all it can; two of the other, to whom it is all one.
        dueEach(lined("A25000", "L000", 5), "rests(5,0)=3 rests(5,1)=42 change()=1 rests(5,0)=3 rests(5,1)=24");
    }

    @Holds(promise = 30, says = "pairs in which neither loses less by another one alone: how many; the first one "
        + "(10 times LEADER 0's and 2, and LEADER 1's and 2); NONE.")
    static void restsWhereOffGoesOut() {
        // OFF 6 less, three turns each: it goes out by 0 and 2, 1 and 1, 2 and 0; OFF 6 more likewise.
        dueEach(lined("A24055", "L000", 6), "rests(6,0)=3 rests(6,1)=24");
        dueEach(lined("A26055", "L000", 6), "rests(6,0)=3 rests(6,1)=2");
        // OFF 0, four turns each: what one mends the other takes back, and to stop it alone costs 4 and saves 2.
        dueEach(lined("A25055", "L000", 8), "rests(8,0)=5 rests(8,1)=4");
    }

    @Holds(promise = 30, says = "RESTS: how many (what = 0), the first one (1; NONE).")
    static void restsAreNeverNone() {
        // What one gains by another mend is what |OFF| and twice both mends together lose: the least of it is at rest.
        for (int head = 0; head < 1000; head++) {
            String text = "A2" + head / 100 + "0" + head / 10 % 10 + head % 10;
            TenArrows x = Script.played(lined(text, "L120", 7));
            for (int n = 0; n <= 7; n++) {
                isTrue(text + ", rests(" + n + ")", x.rests(n, 0) >= 1 && x.rests(n, 1) >= 0 && x.rests(n, 1) <= 44);
            }
        }
    }

    // ---- promise 31

    @Holds(promise = 31, says = "BAD: n (1 .. 6, no more than STAGES AHEAD), m.")
    static void chanceRefusesTooFewAndTooManyStages() {
        dueEach(lined("A25055", "L005", 8), "chance(0,0,true)=-2 chance(7,0,true)=-2 chance(8,0,true)=-2 "
            + "chance(-1,0,true)=-2 chance(1,0,true)=1 chance(6,0,true)=1");
        for (int far : FAR) {
            dueBehind(lined("A25055", "L005", 8), "chance(" + far + ",0,true)", BAD);
        }
    }

    @Holds(promise = 31, says = "BAD: n (1 .. 6, no more than STAGES AHEAD), m.")
    static void chanceRefusesMoreThanIsAhead() {
        dueEach("", "chance(1,0,true)=-2 chance(0,0,true)=-2");
        for (int laid = 0; laid <= 6; laid++) {
            String script = lined("A95055", "L005", 6) + (laid == 0 ? "" : "lay()*" + laid);
            for (int n = 1; n <= 7; n++) {
                dueBehind(script, "chance(" + n + ",0,false)", n > 6 - laid ? BAD : 1 << n);
            }
        }
    }

    @Holds(promise = 31, says = "CHANCE that in n STAGES AHEAD (1 .. 6) just m ARROWS (0 .. 6) are lost")
    static void chanceRefusesTooFewAndTooManyArrows() {
        dueEach(lined("A25055", "L005", 8), "chance(6,-1,true)=-2 chance(6,7,true)=-2 chance(6,0,true)=1 chance(6,6,true)=1");
        for (int far : FAR) {
            dueBehind(lined("A25055", "L005", 8), "chance(6," + far + ",true)", BAD);
        }
    }

    @Holds(promise = 31, says = "CHANCE that in n STAGES AHEAD (1 .. 6) just m ARROWS (0 .. 6) are lost")
    static void chanceOfMoreArrowsThanStages() {
        for (int n = 1; n <= 5; n++) {
            for (int m = n + 1; m <= 6; m++) {
                dueFraction(Script.played(lined("A25055", "L009", 8)), "chance(" + n + "," + m, 0, 1);
            }
        }
    }

    @Holds(promise = 31, says = "(each by tenths of its GORSE, by itself): a FRACTION.")
    static void chanceOverBareGround() {
        for (int n = 1; n <= 6; n++) {
            TenArrows x = Script.played(lined("A25055", "L000", 8));
            dueFraction(x, "chance(" + n + ",0", 1, 1);
            dueFraction(x, "chance(" + n + ",1", 0, 1);
            dueFraction(x, "chance(" + n + ",6", 0, 1);
        }
    }

    @Holds(promise = 31, says = "(each by tenths of its GORSE, by itself): a FRACTION.")
    static void chanceInTheMostGorse() {
        TenArrows x = Script.played(lined("A25055", "L009", 8));
        int[] ofSix = {1, 54, 1215, 14580, 98415, 354294, 531441};
        for (int m = 0; m <= 6; m++) {
            int common = BigInteger.valueOf(ofSix[m]).gcd(BigInteger.valueOf(1000000)).intValue();
            dueFraction(x, "chance(6," + m, ofSix[m] / common, 1000000 / common);
        }
        dueFraction(x, "chance(1,1", 9, 10);
        dueFraction(x, "chance(1,0", 1, 10);
    }

    @Holds(promise = 31, says = "FRACTIONS are told above (upper = true), below, in least terms.")
    static void chanceInLeastTerms() {
        TenArrows x = Script.played(lined("A25055", "L005", 8));
        dueFraction(x, "chance(1,0", 1, 2);
        dueFraction(x, "chance(2,1", 1, 2);
        dueFraction(x, "chance(6,3", 5, 16);
        dueFraction(x, "chance(6,6", 1, 64);
    }

    @Holds(promise = 31, says = "STAGES AHEAD are those from THE PLACE on.")
    static void chanceOfStagesAheadAlone() {
        TenArrows x = Script.played("'A25055L009L001L002' line() lay()");
        dueFraction(x, "chance(1,1", 1, 10);
        dueFraction(x, "chance(2,2", 1, 50);
        x.lay();
        dueFraction(x, "chance(1,1", 1, 5);
    }

    // ---- promise 32

    @Holds(promise = 32, says = "THE SEED is v: what it was.")
    static void seedOfTheLeastAndTheMost() {
        TenArrows x = new TenArrows();
        long[] seeds = {Long.MIN_VALUE, Long.MAX_VALUE, -1, 0, 1, Integer.MIN_VALUE - 1L, Integer.MAX_VALUE + 1L};
        long was = 0;
        for (long seed : seeds) {
            due("seed(" + seed + ")", was, x.seed(seed));
            was = seed;
        }
        due("seed", was, x.seed(0));
    }

    @Holds(promise = 32, says = "THE SEED is v: what it was.")
    static void seedIsNoAct() {
        dueEach("change() seed(5)", "about(10)=1 undo()=0 seed(0)=5");
    }

    // ---- promise 33

    @Holds(promise = 33, says = "DAYS by THE SEED: m times (1 .. 20)")
    static void daysRefusesTooFewAndTooMany() {
        dueEach("'A25055L009' line() seed(5)", "days(0)=-2 days(21)=-2 days(-1)=-2 seed(5)=5");
        for (int far : FAR) {
            dueBehind("'A25055L009' line()", "days(" + far + ")", BAD);
        }
    }

    @Holds(promise = 33, says = "DAYS by THE SEED: m times (1 .. 20), for each STAGE AHEAD x (THE SEED, a long; "
        + "0 at first) becomes x times 6364136223846793005 and 1442695040888963407 (64 bits, wrapping)")
    static void daysMoveTheSeedOnceADayAndStage() {
        for (int stages = 1; stages <= 8; stages++) {
            for (int days : new int[] {1, 2, 19, 20}) {
                BigInteger seed = BigInteger.ZERO;
                for (int i = 0; i < stages * days; i++) {
                    seed = next(seed);
                }
                TenArrows x = Script.played(lined("A25055", "L000", stages));
                due("days(" + days + ") of bare ground", 0, x.days(days));
                due("seed behind days(" + days + ") of " + stages, seed.longValue(), x.seed(0));
            }
        }
    }

    @Holds(promise = 33, says = "(64 bits, wrapping)")
    static void daysWrapAroundFromEachSeed() {
        long[] seeds = {0, 1, -1, Long.MAX_VALUE, Long.MIN_VALUE, Long.MIN_VALUE + 1, 1L << 32, -(1L << 33), 77};
        for (long begin : seeds) {
            for (int gorse = 0; gorse <= 9; gorse++) {
                BigInteger seed = unsigned(BigInteger.valueOf(begin));
                int losses = 0;
                for (int day = 0; day < 20; day++) {
                    seed = next(seed);
                    losses += seed.shiftRight(33).mod(BigInteger.TEN).intValue() < gorse ? 1 : 0;
                }
                TenArrows x = Script.played("'A25055L00" + gorse + "' line() seed(" + begin + ")");
                due("days(20) from " + begin + " by gorse " + gorse, losses, x.days(20));
                due("seed from " + begin, seed.longValue(), x.seed(0));
            }
        }
    }

    @Holds(promise = 33, says = "if what is left of its upper 31 bits by 10 is less than its GORSE, an ARROW is lost")
    static void daysWhereWhatIsLeftIsJustTheGorse() {
        // From 0 on the first seed is 1442695040888963407; its upper 31 bits are 167951807: 7 is left.
        dueBehind("'A25055L007' line()", "days(1)", 0);
        dueBehind("'A25055L008' line()", "days(1)", 1);
    }

    @Holds(promise = 33, says = "if what is left of its upper 31 bits by 10 is less than its GORSE, an ARROW is lost")
    static void daysTakeTheUpperBitsWithoutASign() {
        // A seed whose next one is less than 0 and whose bits, taken with a sign, would leave less than any gorse.
        long begin = 1;
        while (next(unsigned(BigInteger.valueOf(begin))).longValue() >= 0
            || next(unsigned(BigInteger.valueOf(begin))).shiftRight(33).mod(BigInteger.TEN).intValue() == 0) {
            begin++;
        }
        int left = next(BigInteger.valueOf(begin)).shiftRight(33).mod(BigInteger.TEN).intValue();
        dueBehind("'A25055L00" + left + "' line() seed(" + begin + ")", "days(1)", 0);
        dueBehind("'A25055L000' line() seed(" + begin + ")", "days(1)", 0);
    }

    @Holds(promise = 33, says = "Nothing changes but THE SEED.")
    static void daysWithoutStagesAhead() {
        dueEach("seed(6)", "days(1)=0 days(20)=0 seed(0)=6");
        dueEach("'A25055L009' line() lay() seed(6)", "days(20)=0 seed(0)=6 about(10)=1");
    }

    @Holds(promise = 33, says = "for each STAGE AHEAD x")
    static void daysOfStagesAheadAlone() {
        // STAGES laid neither lose an ARROW nor move THE SEED.
        TenArrows x = Script.played("'A25055L009L000' line() lay()");
        due("days", 0, x.days(1));
        due("seed", MORE.longValue(), x.seed(0));
    }

    @Holds(promise = 33, says = "how many together")
    static void daysGoOnFromOneAnother() {
        TenArrows once = Script.played("'A25055L005L003L009' line() seed(3)");
        TenArrows often = Script.played("'A25055L005L003L009' line() seed(3)");
        int together = 0;
        for (int day = 0; day < 20; day++) {
            together += often.days(1);
        }
        due("days(20)", together, once.days(20));
        due("seed", often.seed(0), once.seed(0));
    }

    @Holds(promise = 33, says = "Nothing changes but THE SEED.")
    static void daysLoseNoArrowInTruth() {
        TenArrows before = Script.played("'A25055L009L009L009' line() lay() seed(3)");
        TenArrows behind = Script.played("'A25055L009L009L009' line() lay() days(20) seed(3)");
        Probe.sameNow("days", before, behind);
    }
}
