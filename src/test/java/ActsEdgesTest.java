/** Boundary cases of promises 10 to 18: acts. */
public final class ActsEdgesTest extends Edges {
    public static void main(String[] args) {
        runAll(ActsEdgesTest.class);
    }

    // ---- promise 10

    @Holds(promise = 10, says = "1 GROUND: LEVEL 0, ASLANT v times v less, STEPPED v less, ROUND 2 v less")
    static void layTheLeastAndTheMostOfEachGround() {
        int[] most = {0, 81, 9, 18};
        int[] one = {0, 1, 1, 2};
        for (int kind = 0; kind <= 3; kind++) {
            dueBehind("'A25055L" + kind + "00' line()", "lay()", 20000);
            dueBehind("'A25055L" + kind + "10' line()", "lay()", 20000 - one[kind]);
            dueBehind("'A25055L" + kind + "90' line()", "lay()", 20000 - most[kind]);
        }
    }

    @Holds(promise = 10, says = "ERROR of a STAGE, in tenths of links, is what four SOURCES make together")
    static void layTheLeastError() {
        dueEach("'A20909L190' line() stretch(-3) stretch(-1)", "lay()=19896 stage(0,3)=19896");
    }

    @Holds(promise = 10, says = "LAID: its ERROR.")
    static void layTheMostError() {
        dueEach("'A29090L000' line() stretch(3) stretch(2)", "lay()=20013 stage(0,3)=20013");
    }

    @Holds(promise = 10, says = "2 the BENT of who leads; 3 KNOTS: as many less.")
    static void layByEachLeaderWithNoneAndAllKnots() {
        dueEach("'A25090L000L000L000' line()", "lay()=20004 change()=1 lay()=19995 change()=0 lay()=20004");
        dueEach("'A25955L000L000' line()", "lay()=19991 clear()=9 lay()=20000");
    }

    @Holds(promise = 10, says = "its ERROR is kept in the book of STAGES (as STRETCH, KNOTS, who leads are now)")
    static void layByWhatIsNowNotByWhatWasTold() {
        dueEach("'A26164L000L000' line() stretch(-3) knot() change()", "lay()=19995 stage(0,3)=19995");
    }

    @Holds(promise = 10, says = "LATE: no STAGE is left, or no ARROW (in HAND, at the BACK).")
    static void layOnALineWithoutStages() {
        dueEach("", "lay()=-3 about(10)=0");
        dueEach("'A25055' line()", "lay()=-3 about(2)=0 about(3)=2 about(10)=0");
    }

    @Holds(promise = 10, says = "LATE: no STAGE is left, or no ARROW (in HAND, at the BACK).")
    static void layTheLastStageAndNoMore() {
        for (int stages = 1; stages <= 8; stages++) {
            TenArrows x = Script.played(lined("A95055", "L000", stages) + "lay()*" + (stages - 1));
            due("the last of " + stages, 20000, x.lay());
            due("one more than " + stages, LATE, x.lay());
            dueAbout(x, 2, stages, 9 - stages, stages, 0);
            due("acts", stages, x.about(10));
        }
    }

    @Holds(promise = 10, says = "LATE: no STAGE is left, or no ARROW (in HAND, at the BACK).")
    static void layWithoutAnArrow() {
        TenArrows x = dueEach(lined("A25055", "L000", 4), "lay()=20000 lose()=0 lay()=20000 lose()=0 lay()=-3");
        dueAbout(x, 2, 2, 0, 0, 0, 3);
        due("acts", 4, x.about(10));
    }

    @Holds(promise = 10, says = "LATE: no STAGE is left, or no ARROW (in HAND, at the BACK).")
    static void layWithTheOneArrowThatIsLeft() {
        // In HAND, then at the BACK: it comes into HAND each time.
        TenArrows x = dueEach(lined("A25055", "L000", 4) + "lay() lose()",
            "lay()=20000 about(3)=0 about(4)=1 about(5)=0 lay()=20000 about(3)=0 about(4)=1 about(5)=1 lay()=20000");
        dueAbout(x, 2, 4, 0, 1, 2, 1);
    }

    @Holds(promise = 10, says = "if there are none in HAND, first all that are at the BACK come into HAND, "
        + "THE TALLY is one more")
    static void layBringsAllIntoHandJustWhenHandIsEmpty() {
        for (int arrows = 2; arrows <= 7; arrows++) {
            TenArrows x = Script.played(lined("A" + arrows + "5055", "L000", 8) + "lay()*" + arrows);
            dueAbout(x, 2, arrows, 0, arrows, 0);
            x.lay();
            dueAbout(x, 2, arrows + 1, arrows - 1, 1, 1);
        }
    }

    @Holds(promise = 10, says = "if there are none in HAND, first all that are at the BACK come into HAND, "
        + "THE TALLY is one more")
    static void layBringsFewerIntoHandWhenSomeAreLost() {
        TenArrows x = Script.played(lined("A45055", "L000", 8) + "lay() lose() lay() lose() lay()*2");
        dueAbout(x, 2, 4, 0, 2, 0, 3);
        x.lay();
        dueAbout(x, 2, 5, 1, 1, 1, 3);
    }

    @Holds(promise = 10, says = "one in HAND is stuck, picked up, and at the BACK then")
    static void layBringsAFoundOneIntoHandToo() {
        TenArrows x = Script.played(lined("A25055", "L000", 8) + "lay() lose() lay() lose() find(0) find(1)");
        dueAbout(x, 2, 2, 0, 2, 0, 0);
        due("lay", 20000, x.lay());
        dueAbout(x, 2, 3, 1, 1, 1, 0);
    }

    @Holds(promise = 10, says = "THE PLACE is one more.")
    static void layMovesThePlaceFromTheFirstToBehindTheLast() {
        TenArrows x = Script.played(lined("A25055", "L000", 8));
        for (int place = 0; place <= 8; place++) {
            due("about(2)", place, x.about(2));
            due("lay", place < 8 ? 20000 : LATE, x.lay());
        }
        due("about(2)", 8, x.about(2));
    }

    // ---- promise 11

    @Holds(promise = 11, says = "LATE: nothing was laid, or that one is LOST.")
    static void loseWhenNothingWasLaid() {
        dueEach("", "lose()=-3 about(10)=0");
        dueEach("'A25055L000' line()", "lose()=-3 about(10)=0 lay()=20000 undo()=0 lose()=-3");
    }

    @Holds(promise = 11, says = "LATE: nothing was laid, or that one is LOST.")
    static void loseTheSameOneTwice() {
        dueEach(lined("A35055", "L000", 3) + "lay()*2", "lose()=1 lose()=-3 about(4)=1 about(6)=2 about(10)=3");
    }

    @Holds(promise = 11, says = "LOST: how many are at the BACK.")
    static void loseTheOnlyOneAtTheBack() {
        dueEach("'A25055L000' line() lay()", "about(4)=1 lose()=0 about(4)=0 about(3)=1 about(6)=1");
    }

    @Holds(promise = 11, says = "LOST: the ARROW of the STAGE laid last was not picked up: one less at the BACK.")
    static void loseTheFirstOneBehindThoseThatCameIntoHand() {
        dueEach(lined("A25055", "L000", 3) + "lay()*3", "about(4)=1 lose()=0 about(3)=1 about(6)=4");
    }

    @Holds(promise = 11, says = "LOST: the ARROW of the STAGE laid last was not picked up: one less at the BACK.")
    static void loseAtTheEighthStage() {
        dueEach(lined("A95055", "L000", 8) + "lay()*8", "lose()=7 about(6)=128 stage(7,4)=1");
    }

    @Holds(promise = 11, says = "LATE: nothing was laid, or that one is LOST.")
    static void loseOneThatWasFoundAgain() {
        dueEach("'A25055L000' line() lay()", "lose()=0 find(0)=1 lose()=0 lose()=-3");
    }

    @Holds(promise = 11, says = "LATE: nothing was laid, or that one is LOST.")
    static void loseBehindALostOneThatIsNotTheLast() {
        dueEach(lined("A35055", "L000", 3) + "lay() lose() lay()", "lose()=0 about(6)=3");
    }

    // ---- promise 12

    @Holds(promise = 12, says = "UNKNOWN; LATE: it is not LOST.")
    static void findAtWhatIsNoStage() {
        dueEach("'A25055L000' line() lay() lose()", "find(-1)=-1 find(1)=-1 find(8)=-1 find(0)=1");
        dueEach("", "find(0)=-1");
        for (int far : FAR) {
            dueBehind(lined("A25055", "L000", 8), "find(" + far + ")", UNKNOWN);
        }
        // A shift by 32 is a shift by 0: STAGE 32 must not be taken for STAGE 0.
        dueBehind("'A25055L000' line() lay() lose()", "find(32)", UNKNOWN);
    }

    @Holds(promise = 12, says = "UNKNOWN; LATE: it is not LOST.")
    static void findWhatIsNotLost() {
        dueEach(lined("A25055", "L000", 2), "find(0)=-3 lay()=20000 find(0)=-3 find(1)=-3 about(10)=1");
    }

    @Holds(promise = 12, says = "UNKNOWN; LATE: it is not LOST.")
    static void findTheSameOneTwice() {
        dueEach("'A25055L000' line() lay() lose()", "find(0)=1 find(0)=-3 about(4)=1 about(10)=3");
    }

    @Holds(promise = 12, says = "FOUND: how many are at the BACK.")
    static void findEachOfAllEight() {
        TenArrows x = Script.played(lined("A95055", "L000", 8) + "lay() lose() lay() lose() lay() lose() lay() lose() "
            + "lay() lose() lay() lose() lay() lose() lay() lose()");
        for (int stage = 7; stage >= 0; stage--) {
            due("find(" + stage + ")", 8 - stage, x.find(stage));
            due("bits", (1 << stage) - 1, x.about(6));
        }
        dueAbout(x, 2, 8, 1, 8, 0, 0);
    }

    @Holds(promise = 12, says = "FOUND: one that is LOST is at the BACK again.")
    static void findBringsNoneIntoHand() {
        dueEach(lined("A25055", "L000", 4) + "lay() lose() lay() lose()", "find(0)=1 about(3)=0 about(4)=1 about(5)=0");
    }

    // ---- promises 13 and 14

    @Holds(promise = 13, says = "DOUBLED: THE TALLY is one more.")
    static void doubledWithoutALineAndWithNothingLaid() {
        dueEach("", "doubled()=1 doubled()=2 about(5)=2 about(10)=2 byBook()=4");
        dueEach("'A95055L000' line()", "doubled()=1 about(3)=9 about(4)=0 byBook()=9");
    }

    @Holds(promise = 13, says = "DOUBLED: THE TALLY.")
    static void doubledBehindArrowsThatCameIntoHand() {
        dueEach(lined("A25055", "L000", 4) + "lay()*3", "about(5)=1 doubled()=2 lay()=20000 about(5)=2");
    }

    @Holds(promise = 14, says = "CHANGED: the other LEADER leads.")
    static void changeGoesRound() {
        dueEach("", "change()=1 about(7)=1 change()=0 about(7)=0 change()=1 about(10)=3");
    }

    @Holds(promise = 14, says = "CHANGED: who leads.")
    static void changeAtTheEndOfTheLine() {
        dueEach("'A25055L000' line() lay()", "change()=1 about(10)=2 stage(0,3)=20000");
    }

    // ---- promise 15

    @Holds(promise = 15, says = "BAD: d (-3 .. 3, not 0)")
    static void stretchTakesEachThatIsAllowed() {
        int[] allowed = {-3, -2, -1, 1, 2, 3};
        for (int d : allowed) {
            dueBehind("", "stretch(" + d + ")", 50 + d);
        }
    }

    @Holds(promise = 15, says = "BAD: d (-3 .. 3, not 0)")
    static void stretchRefusesNoughtAndWhatIsTooMuch() {
        dueEach("", "stretch(0)=-2 stretch(4)=-2 stretch(-4)=-2 about(8)=50 about(10)=0");
        for (int far : FAR) {
            dueBehind("", "stretch(" + far + ")", BAD);
        }
    }

    @Holds(promise = 15, says = "LATE: it would be less than -9, more than 9.")
    static void stretchFromEachStretchByEach() {
        for (int from = -9; from <= 9; from++) {
            String there = "stretch(" + (from < 0 ? -1 : 1) + ")*" + Math.abs(from);
            for (int d = -3; d <= 3; d++) {
                int then = from + d;
                dueBehind(there, "stretch(" + d + ")", d == 0 ? BAD : then < -9 || then > 9 ? LATE : 50 + then);
            }
        }
    }

    @Holds(promise = 15, says = "STRETCHED: STRETCH is d more (-9 .. 9 it stays).")
    static void stretchStaysWhereItWasWhenItWouldBeTooMuch() {
        dueEach("stretch(3)*2 stretch(2)", "stretch(2)=-3 about(8)=58 about(10)=3 stretch(1)=59 stretch(1)=-3 about(8)=59");
        dueEach("stretch(-3)*2 stretch(-2)",
            "stretch(-2)=-3 about(8)=42 about(10)=3 stretch(-1)=41 stretch(-1)=-3 about(8)=41");
    }

    @Holds(promise = 15, says = "Of several what is told first.")
    static void stretchIsBadBeforeItIsLate() {
        dueEach("stretch(3)*3", "stretch(4)=-2 stretch(2147483647)=-2 stretch(3)=-3");
        dueEach("stretch(-3)*3", "stretch(-4)=-2 stretch(-2147483648)=-2 stretch(-3)=-3");
    }

    @Holds(promise = 15, says = "STRETCHED: STRETCH then.")
    static void stretchGoesOnFromTheLeastAndTheMostTold() {
        dueEach("'A20055' line()", "stretch(-3)=42 stretch(-2)=-3 stretch(-1)=41");
        dueEach("'A29055' line()", "stretch(3)=57 stretch(3)=-3 stretch(2)=59");
    }

    // ---- promises 16 and 17

    @Holds(promise = 16, says = "FULL: there are 9.")
    static void knotTheNinthAndNoTenth() {
        dueEach("knot()*8", "knot()=9 knot()=-4 about(9)=9 about(10)=9");
        dueEach("'A25955' line()", "knot()=-4 about(10)=0");
        dueEach("'A25855' line()", "knot()=9 knot()=-4 about(10)=1");
    }

    @Holds(promise = 16, says = "KNOTTED: KNOTS are one more (9 at most).")
    static void knotOneMoreFromEachNumberOn() {
        for (int knots = 0; knots <= 8; knots++) {
            dueEach("'A25" + knots + "55L000' line()",
                "knot()=" + (knots + 1) + " about(9)=" + (knots + 1) + " lay()=" + (19999 - knots));
        }
    }

    @Holds(promise = 16, says = "KNOTTED: KNOTS then.")
    static void knotTheFirst() {
        dueEach("", "knot()=1 about(9)=1");
        dueEach("knot()*9 clear()", "knot()=1");
    }

    @Holds(promise = 17, says = "LATE: there are none.")
    static void clearWhereThereAreNone() {
        dueEach("", "clear()=-3 about(10)=0");
        dueEach("knot() clear()", "clear()=-3 about(10)=2");
    }

    @Holds(promise = 17, says = "CLEARED: there are none.")
    static void clearLeavesNoneHoweverManyThereWere() {
        for (int knots = 1; knots <= 9; knots++) {
            dueEach("'A25" + knots + "55L000' line()", "clear()=" + knots + " about(9)=0 lay()=20000");
        }
    }

    @Holds(promise = 17, says = "CLEARED: how many KNOTS there were.")
    static void clearOneAndAllNine() {
        dueEach("knot()", "clear()=1 about(9)=0");
        dueEach("'A25955' line()", "clear()=9 about(9)=0");
    }

    // ---- promise 18

    @Holds(promise = 18, says = "LATE: there is none.")
    static void undoWhereThereIsNone() {
        dueEach("", "undo()=-3 about(10)=0");
        dueEach("change()", "undo()=0 undo()=-3 about(7)=0");
    }

    @Holds(promise = 18, says = "ACTS (LAID, LOST, FOUND, DOUBLED, CHANGED, STRETCHED, KNOTTED, CLEARED) are a row")
    static void undoEachKindOfAct() {
        String begin = lined("A25155", "L113", 4) + "lay() lose() lay() ";
        String[] acts = {"lay()", "lose()", "find(0)", "doubled()", "change()", "stretch(-2)", "knot()", "clear()"};
        for (String act : acts) {
            TenArrows before = Script.played(begin);
            TenArrows behind = Script.played(begin);
            Script.call(behind, act);
            due("acts behind " + act, 4, behind.about(10));
            due("undo of " + act, 3, behind.undo());
            Probe.sameNow(act + " undone", before, behind);
        }
    }

    @Holds(promise = 18, says = "ACTS (LAID, LOST, FOUND, DOUBLED, CHANGED, STRETCHED, KNOTTED, CLEARED) are a row")
    static void undoALayThatBroughtAllIntoHand() {
        TenArrows x = dueEach(lined("A35055", "L000", 8) + "lay() lose() lay()*2", "lay()=20000 about(5)=1 undo()=4");
        dueAbout(x, 2, 3, 0, 2, 0, 1);
    }

    @Holds(promise = 18, says = "The last ACT is undone: how many are left.")
    static void undoAllOfAFullRow() {
        TenArrows x = Script.played("doubled()*14");
        for (int left = 13; left >= 0; left--) {
            due("undo", left, x.undo());
            due("tally", left, x.about(5));
        }
        due("undo", LATE, x.undo());
    }

    @Holds(promise = 18, says = "(14 at most; when it is full, the first one is forgotten)")
    static void undoBehindOneOrMoreForgottenActs() {
        for (int more = 1; more <= 30; more++) {
            TenArrows x = Script.played("doubled()*" + (14 + more));
            due("acts", 14, x.about(10));
            for (int left = 13; left >= 0; left--) {
                due("undo", left, x.undo());
                due("tally", more + left, x.about(5));
            }
            due("undo", LATE, x.undo());
            due("tally", more, x.about(5));
        }
    }

    @Holds(promise = 18, says = "(14 at most; when it is full, the first one is forgotten)")
    static void undoMakesRoomInAFullRow() {
        TenArrows x = dueEach("doubled()*16 undo()*3", "about(10)=11 knot()=1 knot()=2 knot()=3 about(10)=14 knot()=4 "
            + "about(10)=14 undo()=13 undo()=12 undo()=11 undo()=10 about(9)=0 about(5)=13 undo()=9 about(5)=12");
        for (int left = 8; left >= 0; left--) {
            due("undo", left, x.undo());
        }
        due("the first three are forgotten", 3, x.about(5));
        due("undo", LATE, x.undo());
    }

    @Holds(promise = 18, says = "What is refused changes nothing.")
    static void undoKnowsNothingOfRefusedActs() {
        dueEach("'A25955' line() doubled()", "lay()=-3 lose()=-3 find(0)=-1 stretch(0)=-2 knot()=-4 about(10)=1 undo()=0");
        dueEach("'A25055L000' line() doubled()", "find(0)=-3 clear()=-3 about(10)=1 undo()=0 about(5)=0");
    }

    @Holds(promise = 18, says = "ACTS (LAID, LOST, FOUND, DOUBLED, CHANGED, STRETCHED, KNOTTED, CLEARED) are a row")
    static void undoKnowsNothingOfOtherCalls() {
        String others = "write(65) wipe() fault() about(0) stage(0,0) byBook() truly() off(1,0) ends(1,0) step(1) "
            + "share(0,1,true) where(0,true) back(1) shows(0,2) soonest() test(0,0) untest() changes(0) rests(1,0) "
            + "chance(1,0,true) days(3) seed(4) keep(0)";
        dueEach("'A25055L000' line() doubled() " + others, "about(10)=1 undo()=0 about(5)=0 seed(0)=4");
    }

    @Holds(promise = 18, says = "the last one can be undone.")
    static void undoTheLastActAloneThenTheOneAheadOfIt() {
        dueEach("doubled() change()", "undo()=1 about(7)=0 about(5)=1 undo()=0 about(5)=0 undo()=-3");
    }
}
