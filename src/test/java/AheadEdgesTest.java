import java.math.BigInteger;

/** Boundary cases of promises 19 to 26: what is asked of stages ahead and of lost arrows. */
public final class AheadEdgesTest extends Edges {
    public static void main(String[] args) {
        runAll(AheadEdgesTest.class);
    }

    // ---- promise 19

    @Holds(promise = 19, says = "BAD: n (0 .. STAGES AHEAD), plan (0 .. 255).")
    static void offOfNoStages() {
        dueEach("", "off(0,0)=20000 off(0,255)=20000 off(1,0)=-2");
        dueEach("'A29995L390' line()", "off(0,0)=20000 off(0,1)=20000");
    }

    @Holds(promise = 19, says = "BAD: n (0 .. STAGES AHEAD), plan (0 .. 255).")
    static void offOfAsManyAsAreAheadAndOneMore() {
        for (int laid = 0; laid <= 8; laid++) {
            String script = lined("A95055", "L110", 8) + (laid == 0 ? "" : "lay()*" + laid);
            int ahead = 8 - laid;
            dueEach(script, "off(" + ahead + ",0)=" + (20000 - ahead) + " off(" + (ahead + 1) + ",0)=-2 off(-1,0)=-2");
        }
        for (int far : FAR) {
            dueBehind(lined("A25055", "L110", 8), "off(" + far + ",0)", BAD);
        }
    }

    @Holds(promise = 19, says = "BAD: n (0 .. STAGES AHEAD), plan (0 .. 255).")
    static void offByPlansTooSmallAndTooLarge() {
        dueEach("'A25059L000' line()", "off(1,0)=20000 off(1,255)=20004 off(1,-1)=-2 off(1,256)=-2 off(0,256)=-2");
        for (int far : FAR) {
            dueBehind("'A25059L000' line()", "off(1," + far + ")", BAD);
        }
    }

    @Holds(promise = 19, says = "STAGES AHEAD are those from THE PLACE on.")
    static void offAtTheEndOfTheLine() {
        dueEach("'A25055L190L190' line() lay()*2", "off(0,0)=20000 off(1,0)=-2");
    }

    @Holds(promise = 19, says = "OFF by a plan (bits: bit k: LEADER 1 leads at STAGE k, else LEADER 0) "
        + "of n STAGES AHEAD: their ERRORS together.")
    static void offByEachBitOfThePlan() {
        TenArrows x = Script.played(lined("A25059", "L000", 8));
        for (int k = 0; k < 8; k++) {
            due("bit " + k + " of all", 20004, x.off(8, 1 << k));
            due("bit " + k + ", STAGES ahead of it", 20000, x.off(k, 1 << k));
            due("bit " + k + ", STAGES up to it", 20004, x.off(k + 1, 1 << k));
            due("all but bit " + k, 20028, x.off(8, 255 - (1 << k)));
        }
    }

    @Holds(promise = 19, says = "OFF by a plan (bits: bit k: LEADER 1 leads at STAGE k, else LEADER 0) "
        + "of n STAGES AHEAD: their ERRORS together.")
    static void offDoesNotMindBitsOfStagesLaid() {
        dueEach(lined("A25059", "L000", 8) + "lay()*3", "off(5,7)=20000 off(1,8)=20004 off(5,248)=20020 off(5,255)=20020");
    }

    @Holds(promise = 19, says = "ERRORS, OFF, TRULY are told 20000 more, STRETCH 50 more.")
    static void offOfTheLeastAndTheMost() {
        dueEach(lined("A20900", "L190", 8) + "stretch(-3) stretch(-1)", "off(8,0)=19168 off(8,255)=19168");
        dueEach(lined("A29099", "L090", 8) + "stretch(3) stretch(2)", "off(8,0)=20104 off(8,255)=20104");
    }

    @Holds(promise = 19, says = "In what follows nothing is changed.")
    static void askingChangesNothing() {
        String script = "'A26264L003L152L234L319L146L002' line() keep(0) lay()*2 lose() lay() keep(1) test(1,1) seed(8)";
        String asking = " off(3,5) ends(3,0) ends(3,1) step(0) step(99) share(1,3,true) where(1,true) back(7) "
            + "shows(1,2) soonest() changes(0) rests(3,0) chance(3,1,true)";
        String other = Probe.firstOther(Probe.allBehind(script), Probe.allBehind(script + asking));
        isTrue("asked: " + other, other.isEmpty());
    }

    // ---- promise 20

    @Holds(promise = 20, says = "BAD: n (0 .. STAGES AHEAD), what.")
    static void endsOfNoStages() {
        dueEach("", "ends(0,0)=0 ends(0,1)=20000 ends(1,0)=-2 ends(1,1)=-2");
        dueEach("'A25095L000' line() change()", "ends(0,0)=0 ends(0,1)=20000");
    }

    @Holds(promise = 20, says = "BAD: n (0 .. STAGES AHEAD), what.")
    static void endsOfAsManyAsAreAheadAndOneMore() {
        for (int laid = 0; laid <= 8; laid++) {
            String script = lined("A95095", "L000", 8) + (laid == 0 ? "" : "lay()*" + laid);
            int ahead = 8 - laid;
            // LEADER 1 is straight: it leads all that is ahead.
            dueEach(script, "ends(" + ahead + ",0)=" + (255 >> laid << laid) + " ends(" + ahead + ",1)=20000 ends("
                + (ahead + 1) + ",0)=-2 ends(-1,0)=-2");
        }
        for (int far : FAR) {
            dueBehind(lined("A25055", "L000", 8), "ends(" + far + ",0)", BAD);
        }
    }

    @Holds(promise = 20, says = "ENDS: the plan (what = 0: bits), OFF by it (1).")
    static void endsRefusesWhatIsTooSmallOrTooLarge() {
        dueEach("'A25055L000' line()", "ends(1,-1)=-2 ends(1,2)=-2 ends(1,0)=0 ends(1,1)=20000");
        for (int far : FAR) {
            dueBehind("'A25055L000' line()", "ends(1," + far + ")", BAD);
        }
    }

    @Holds(promise = 20, says = "the plan (of their bits alone)")
    static void endsTellsBitsOfTheAskedStagesAlone() {
        dueEach(lined("A25095", "L000", 8) + "lay()*3", "ends(0,0)=0 ends(1,0)=8 ends(2,0)=24 ends(5,0)=248");
        dueEach(lined("A25095", "L000", 8) + "lay()*7", "ends(1,0)=128 ends(1,1)=20000");
    }

    @Holds(promise = 20, says = "by which OFF is least, whatever its sign")
    static void endsWithOffBelowAndAboveZero() {
        dueEach("'A25074L000' line()", "ends(1,0)=1 ends(1,1)=19999");
        dueEach("'A25036L000' line()", "ends(1,0)=1 ends(1,1)=20001");
    }

    @Holds(promise = 20, says = "of like ones that with fewest changes (of who leads, from who leads now on)")
    static void endsOfLikeOnesWithOtherSigns() {
        dueEach("'A25064L000' line()", "ends(1,0)=0 ends(1,1)=20001 change()=1 ends(1,0)=1 ends(1,1)=19999");
    }

    @Holds(promise = 20, says = "of like ones that with fewest changes (of who leads, from who leads now on)")
    static void endsOfLikeLeadersGoesOnAsItIs() {
        dueEach(lined("A25077", "L000", 8), "ends(8,0)=0 change()=1 ends(8,0)=255 ends(1,0)=1 ends(8,1)=20016");
    }

    @Holds(promise = 20, says = "of like ones that with fewest changes (of who leads, from who leads now on)")
    static void endsCountsAChangeAtTheFirstStageToo() {
        // 01 and 10 go out alike; from LEADER 0 on 10 changes once, from LEADER 1 on 01 does.
        dueEach("'A25064L000L000' line()", "ends(2,0)=2 change()=1 ends(2,0)=1 ends(2,1)=20000");
    }

    @Holds(promise = 20, says = "then the least: which; OFF by it.")
    static void endsOfLikeOnesWithLikeChanges() {
        // OFF is 1 or -1: 001 and 011 (from the first STAGE on) change once each.
        dueEach("'A25064L000L000L000' line()", "ends(3,0)=4 ends(3,1)=20001");
        dueEach("'A25064L000L000L000' line() change()", "ends(3,0)=1 ends(3,1)=20001");
    }

    @Holds(promise = 20, says = "by which OFF is least, whatever its sign")
    static void endsPrefersALeastOffToFewChanges() {
        // BENT 4 and -1: it goes out when LEADER 0 leads one of the five; without a change it would be 20 off.
        dueEach(lined("A25094", "L000", 5), "ends(5,0)=30 ends(5,1)=20000");
    }

    // ---- promise 21

    @Holds(promise = 21, says = "STEP for x (0 .. 99)")
    static void stepRefusesWhatIsTooSmallOrTooLarge() {
        dueEach("'A25055L190' line()", "step(-1)=-2 step(100)=-2 step(0)=-9 step(99)=0");
        for (int far : FAR) {
            dueBehind("'A25055L190' line()", "step(" + far + ")", BAD);
        }
    }

    @Holds(promise = 21, says = "STEP, as bits; NONE.")
    static void stepWithoutStagesAhead() {
        dueEach("", "step(0)=0 step(99)=0");
        dueEach("'A29095L190' line() lay()", "step(0)=0");
    }

    @Holds(promise = 21, says = "is no more than x, whatever its sign; NONE.")
    static void stepWhenOffIsJustX() {
        dueEach("'A25055L190' line()", "step(81)=0 step(80)=1 step(9)=1 step(8)=-9");
    }

    @Holds(promise = 21, says = "is no more than x, whatever its sign; NONE.")
    static void stepForTheMostX() {
        dueBehind("'A25055L190L140L220' line()", "step(99)", 0);
        // 100 less: either of the two ASLANT ones is enough, the first is the least.
        dueBehind("'A25055L190L140L230' line()", "step(99)", 1);
    }

    @Holds(promise = 21, says = "is no more than x, whatever its sign; NONE.")
    static void stepWhenOffIsTooMuchAboveZero() {
        dueEach("'A29095L120' line()", "step(4)=0 step(3)=-9");
    }

    @Holds(promise = 21, says = "is no more than x, whatever its sign; NONE.")
    static void stepThatWouldGoTooFar() {
        // STRETCH 9 at eight STAGES, one ASLANT 9: 9 less; stepped it would be 63 more.
        dueEach("'A25055L000L000L000L000L000L000L000L190' line() stretch(3)*3", "step(9)=0 step(8)=-9 step(0)=-9");
    }

    @Holds(promise = 21, says = "the fewest of ASLANT STAGES AHEAD (bits; of like ones the least) to be STEPPED")
    static void stepOneOfEightAndAllEight() {
        dueEach(lined("A25055", "L120", 8), "step(32)=0 step(31)=1 step(30)=1 step(29)=3 step(18)=127 step(17)=255 "
            + "step(16)=255 step(15)=-9");
    }

    @Holds(promise = 21, says = "the fewest of ASLANT STAGES AHEAD (bits; of like ones the least) to be STEPPED")
    static void stepTheLastOneAlone() {
        dueEach("'A25055L120L120L120L120L120L120L120L190' line()", "step(37)=128 step(36)=129");
    }

    @Holds(promise = 21, says = "the fewest of ASLANT STAGES AHEAD (bits; of like ones the least) to be STEPPED")
    static void stepFewerThoughMoreBitsAreLess() {
        // ASLANT 2, 2, 3: 17 less; the last alone takes 6 away, the first two 2 each.
        dueEach("'A25055L120L120L130' line()", "step(11)=4 step(13)=4 step(15)=1 step(9)=5 step(7)=7 step(6)=-9");
    }

    @Holds(promise = 21, says = "1 GROUND: LEVEL 0, ASLANT v times v less, STEPPED v less, ROUND 2 v less")
    static void stepWhereSteppingChangesNothing() {
        dueEach("'A24055L110L100' line()", "step(3)=0 step(2)=-9");
    }

    @Holds(promise = 21, says = "the fewest of ASLANT STAGES AHEAD (bits; of like ones the least) to be STEPPED")
    static void stepOtherGroundNever() {
        dueEach("'A25055L390' line()", "step(18)=0 step(17)=-9");
        dueEach("'A25055L290' line()", "step(9)=0 step(8)=-9");
        dueEach("'A24055L090' line()", "step(1)=0 step(0)=-9");
    }

    @Holds(promise = 21, says = "so that OFF of all STAGES AHEAD, as who leads now leads all")
    static void stepByWhoLeadsNow() {
        dueEach("'A25059L120L120' line()", "step(8)=0 step(7)=1 change()=1 step(0)=0 change()=0 step(7)=1");
    }

    @Holds(promise = 21, says = "so that OFF of all STAGES AHEAD, as who leads now leads all")
    static void stepStagesLaidNever() {
        dueEach("'A25055L190L120' line() lay()", "step(4)=0 step(3)=2 step(2)=2 step(1)=-9");
    }

    // ---- promise 22

    @Holds(promise = 22, says = "UNKNOWN: source (0 .. 3); BAD: n (0 .. STAGES AHEAD).")
    static void shareRefusesSourcesTooSmallAndTooLarge() {
        dueEach("'A29155L110' line()", "share(-1,1,true)=-1 share(4,1,true)=-1 share(4,0,false)=-1");
        for (int far : FAR) {
            dueBehind("'A29155L110' line()", "share(" + far + ",1,true)", UNKNOWN);
        }
    }

    @Holds(promise = 22, says = "UNKNOWN: source (0 .. 3); BAD: n (0 .. STAGES AHEAD).")
    static void shareRefusesMoreThanIsAhead() {
        dueEach("'A29155L110L110' line()", "share(0,-1,true)=-2 share(3,3,false)=-2 lay()=20002 share(0,2,true)=-2");
        dueEach("", "share(0,1,true)=-2 share(0,-1,true)=-2");
        for (int far : FAR) {
            dueBehind("'A29155L110' line()", "share(0," + far + ",true)", BAD);
        }
    }

    @Holds(promise = 22, says = "Of several what is told first.")
    static void shareIsUnknownBeforeItIsBad() {
        dueEach("'A29155L110' line()", "share(4,2,true)=-1 share(-1,-1,false)=-1");
    }

    @Holds(promise = 22, says = "FRACTIONS are told above (upper = true), below, in least terms.")
    static void shareInNoStages() {
        for (int source = 0; source <= 3; source++) {
            dueFraction(new TenArrows(), "share(" + source + ",0", 0, 1);
            dueFraction(Script.played("'A29999L390' line()"), "share(" + source + ",0", 0, 1);
        }
    }

    @Holds(promise = 22, says = "SHARE of a SOURCE in n STAGES AHEAD")
    static void shareOfAllBySourceAlone() {
        TenArrows ground = Script.played(lined("A25055", "L190", 8));
        dueFraction(ground, "share(1,8", 648, 1);
        dueFraction(ground, "share(0,8", 0, 1);
        dueFraction(Script.played(lined("A25055", "L000", 8) + "stretch(-3)*3"), "share(0,8", 72, 1);
        dueFraction(Script.played(lined("A25005", "L000", 8)), "share(2,8", 40, 1);
        dueFraction(Script.played(lined("A25955", "L000", 8)), "share(3,8", 72, 1);
    }

    @Holds(promise = 22, says = "a FRACTION (less than 0: the upper one is)")
    static void shareLessThanZero() {
        // STRETCH 2, GROUND -1, KNOTS 4: STRETCH takes more away than it brings, a third in the mean.
        dueFraction(Script.played("'A27455L210' line()"), "share(0,1", -1, 3);
        dueFraction(Script.played(lined("A27455", "L210", 3)), "share(0,3", -1, 1);
    }

    @Holds(promise = 22, says = "by how much in the mean what those that have come make together (whatever its sign)")
    static void shareOfTwoThatGoOut() {
        dueFraction(Script.played("'A29455L000' line()"), "share(0,1", 0, 1);
        dueFraction(Script.played("'A29455L000' line()"), "share(3,1", 0, 1);
    }

    @Holds(promise = 22, says = "as who leads now leads all, is more when it has come than it was")
    static void shareOfTheBentOfWhoLeadsNow() {
        TenArrows x = Script.played("'A25090L000L000' line()");
        dueFraction(x, "share(2,2", 8, 1);
        x.change();
        dueFraction(x, "share(2,2", 10, 1);
    }

    @Holds(promise = 22, says = "if SOURCES come one by one, in each order as likely")
    static void sharesTogetherAreAllThatIsOff() {
        String[] lines = {"'A27455L210L330' line()", "'A26172L152L234L319' line()", "'A20909L190L190' line() change()",
            "'A29091L113L223L333L043' line() change() lay()", "'A28363L120L310' line() knot() stretch(-2)"};
        for (String line : lines) {
            TenArrows x = Script.played(line);
            int n = x.about(1) - x.about(2);
            int together = 0;
            for (int source = 0; source <= 3; source++) {
                int top = x.share(source, n, true);
                int bottom = x.share(source, n, false);
                isTrue(line + ": below divides 24: " + bottom, bottom >= 1 && 24 % bottom == 0);
                isTrue(line + ": least terms", BigInteger.valueOf(top)
                    .gcd(BigInteger.valueOf(bottom)).intValue() == 1);
                together += top * (24 / Math.max(1, bottom));
            }
            due(line + ": shares together", 24L * Math.abs(x.off(n, x.about(7) == 0 ? 0 : 255) - 20000), together);
        }
    }

    // ---- promise 23

    @Holds(promise = 23, says = "UNKNOWN: it is not laid")
    static void whereAtStagesThatAreNotLaid() {
        dueEach("'A25055L005L005' line()", "where(0,true)=-1 lay()=20000 where(0,true)=1 where(1,true)=-1 "
            + "where(2,true)=-1 where(-1,true)=-1 where(8,false)=-1 undo()=0 where(0,true)=-1");
        dueEach("", "where(0,true)=-1 where(0,false)=-1");
        for (int far : FAR) {
            dueBehind("'A25055L005' line() lay()", "where(" + far + ",true)", UNKNOWN);
        }
    }

    @Holds(promise = 23, says = "LATE: there is no GORSE on STAGES laid.")
    static void whereWithoutGorseOnStagesLaid() {
        dueEach("'A25055L000L009' line() lay()", "where(0,true)=-3 where(0,false)=-3 lay()=20000 where(0,true)=0");
    }

    @Holds(promise = 23, says = "Of several what is told first.")
    static void whereIsUnknownBeforeItIsLate() {
        dueEach("'A25055L000L009' line() lay()", "where(1,true)=-1 where(2,true)=-1 where(-1,true)=-1");
    }

    @Holds(promise = 23, says = "LATE: there is no GORSE on STAGES laid.")
    static void whereWithOneTenthOfGorseInAll() {
        dueFraction(Script.played("'A25055L001' line() lay()"), "where(0", 1, 1);
        dueFraction(Script.played("'A25055L000L001' line() lay()*2"), "where(0", 0, 1);
    }

    @Holds(promise = 23, says = "at each as likely as its GORSE to the others'")
    static void whereNoGorseIsAmongGorse() {
        TenArrows x = Script.played("'A25055L000L009' line() lay()*2");
        dueFraction(x, "where(0", 0, 1);
        dueFraction(x, "where(1", 1, 1);
    }

    @Holds(promise = 23, says = "at each as likely as its GORSE to the others'")
    static void whereOfTheLeastAndTheMostGorse() {
        TenArrows x = Script.played("'A25055L001L009' line() lay()*2");
        dueFraction(x, "where(0", 1, 10);
        dueFraction(x, "where(1", 9, 10);
        TenArrows y = Script.played("'A95055L001L009L009L009L009L009L009L009' line() lay()*8");
        dueFraction(y, "where(0", 1, 64);
        dueFraction(y, "where(7", 9, 64);
    }

    @Holds(promise = 23, says = "the chance that it was at a STAGE: a FRACTION.")
    static void whereOfEightLikeOnes() {
        TenArrows x = Script.played(lined("A95055", "L009", 8) + "lay()*8");
        for (int stage = 0; stage < 8; stage++) {
            dueFraction(x, "where(" + stage, 1, 8);
        }
    }

    @Holds(promise = 23, says = "WHERE: if just one ARROW was lost at STAGES laid")
    static void whereDoesNotMindWhatIsLost() {
        dueEach("'A35055L005L005' line() lay() lose() lay()", "where(0,false)=2 where(1,false)=2 lose()=0 where(1,false)=2");
    }

    // ---- promise 24

    @Holds(promise = 24, says = "BACK by x tenths (1 .. 10)")
    static void backRefusesWhatIsTooSmallOrTooLarge() {
        dueEach("'A25055L005' line() lay()", "back(0)=-2 back(11)=-2 back(1)=1 back(10)=1");
        for (int far : FAR) {
            dueBehind("'A25055L005' line() lay()", "back(" + far + ")", BAD);
        }
    }

    @Holds(promise = 24, says = "BAD: x; LATE: there is no GORSE on STAGES laid.")
    static void backWithoutGorseOnStagesLaid() {
        dueEach("", "back(1)=-3 back(10)=-3");
        dueEach("'A25055L000L009' line()", "back(1)=-3 lay()=20000 back(1)=-3 back(10)=-3 lay()=20000 back(10)=1");
    }

    @Holds(promise = 24, says = "Of several what is told first.")
    static void backIsBadBeforeItIsLate() {
        dueEach("", "back(0)=-2 back(11)=-2 back(-2147483648)=-2");
    }

    @Holds(promise = 24, says = "LATE: there is no GORSE on STAGES laid.")
    static void backWithOneTenthOfGorseInAll() {
        dueEach("'A25055L001L000' line() lay()", "back(1)=1 back(10)=1 lay()=20000 back(1)=2 back(10)=2");
    }

    @Holds(promise = 24, says = "so that it is there with x tenths or more")
    static void backByJustXTenths() {
        dueEach("'A25055L005L005' line() lay()*2", "back(5)=1 back(6)=2 back(4)=1");
        dueEach("'A25055L009L001' line() lay()*2", "back(1)=1 back(2)=2");
        dueEach("'A35055L009L009L001' line() lay()*3", "back(1)=2 back(5)=2 back(6)=3");
    }

    @Holds(promise = 24, says = "how many STAGES laid, the last ones, one must go back over, at least")
    static void backOverBareGround() {
        dueEach("'A35055L005L000L000' line() lay()*3", "back(1)=3 back(10)=3");
        dueEach("'A35055L000L000L005' line() lay()*3", "back(1)=1 back(10)=1");
    }

    @Holds(promise = 24, says = "how many STAGES laid, the last ones, one must go back over, at least")
    static void backOverAllEight() {
        dueEach(lined("A95055", "L009", 8) + "lay()*8", "back(1)=1 back(2)=2 back(3)=3 back(4)=4 back(5)=4 back(6)=5 "
            + "back(7)=6 back(8)=7 back(9)=8 back(10)=8");
    }

    // ---- promise 25

    @Holds(promise = 25, says = "SHOWS; NONE. UNKNOWN: stage; BAD: m.")
    static void showsRefusesWhatIsNoStage() {
        dueEach("'A25055L000L000' line()", "shows(-1,2)=-1 shows(2,2)=-1 shows(8,2)=-1 shows(0,2)=-9");
        dueEach("", "shows(0,2)=-1");
        for (int far : FAR) {
            dueBehind(lined("A25055", "L000", 8), "shows(" + far + ",2)", UNKNOWN);
        }
    }

    @Holds(promise = 25, says = "SHOWS for m ARROWS (2 .. 9) and a STAGE")
    static void showsRefusesTooFewAndTooManyArrows() {
        dueEach(lined("A25055", "L000", 8), "shows(0,1)=-2 shows(0,10)=-2 shows(0,0)=-2 shows(0,2)=2 shows(0,9)=-9");
        for (int far : FAR) {
            dueBehind(lined("A25055", "L000", 8), "shows(0," + far + ")", BAD);
        }
    }

    @Holds(promise = 25, says = "Of several what is told first.")
    static void showsIsUnknownBeforeItIsBad() {
        dueEach("'A25055L000' line()", "shows(1,1)=-1 shows(-1,10)=-1 shows(0,10)=-2");
    }

    @Holds(promise = 25, says = "the first STAGE before which HAND comes to hold not m "
        + "(all of THE BACK that comes into HAND); NONE: none.")
    static void showsForEachStageAndEachNumber() {
        for (int stages = 1; stages <= 8; stages++) {
            for (int m = 2; m <= 9; m++) {
                TenArrows x = Script.played(lined("A25055", "L000", stages));
                for (int stage = 0; stage < stages; stage++) {
                    // HAND is empty before STAGES m, 2 m, ..: the first of these behind the lost one.
                    int refill = (stage / m + 1) * m;
                    due(stages + " stages, shows(" + stage + ", " + m + ")", refill < stages ? refill : NONE,
                        x.shows(stage, m));
                }
            }
        }
    }

    @Holds(promise = 25, says = "if the line were laid from the beginning on with m, "
        + "and just the ARROW of that STAGE were LOST")
    static void showsDoesNotMindWhatIsLaidAndLost() {
        dueEach(lined("A25055", "L000", 8) + "lay() lose() lay() lose()", "lay()=-3 shows(2,2)=4 shows(0,3)=3 shows(7,7)=-9");
        dueEach(lined("A95055", "L000", 8) + "lay()*8", "shows(0,2)=2 shows(6,7)=7");
    }

    // ---- promise 26

    @Holds(promise = 26, says = "SOONEST: the number of ARROWS (2 .. 9) with which the worst wait "
        + "(SHOWS less the STAGE; none: 9) over all STAGES is least; the least of like ones.")
    static void soonestOfNoneToEightStages() {
        // The ARROW of the last STAGE never shows: the worst wait is 9 with any number, and 2 is the least.
        for (int stages = 0; stages <= 8; stages++) {
            dueBehind(lined("A95055", "L000", stages), "soonest()", 2);
        }
        dueBehind("", "soonest()", 2);
    }
}
