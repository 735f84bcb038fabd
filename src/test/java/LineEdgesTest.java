/** Boundary cases of promises 1 to 9: the line. */
public final class LineEdgesTest extends Edges {
    private static final String EIGHT = "A25055L000L000L000L000L000L000L000L000";

    public static void main(String[] args) {
        runAll(LineEdgesTest.class);
    }

    private static TenArrows written(String text) {
        TenArrows x = new TenArrows();
        for (int i = 0; i < text.length(); i++) {
            x.write(text.charAt(i));
        }
        return x;
    }

    // ---- promise 1

    @Holds(promise = 1, says = "Two arrows, no ground.")
    static void newObjectHasTwoArrowsAndNoGround() {
        TenArrows x = new TenArrows();
        dueAbout(x, 0, 2, 0);
        for (int what = 0; what <= 4; what++) {
            due("stage(0, " + what + ")", UNKNOWN, x.stage(0, what));
        }
        due("lay", LATE, x.lay());
    }

    @Holds(promise = 1, says = "At first ARROWS are 2, STRETCH, BENT of both are 0 (as told: 5), KNOTS 0, "
        + "there are no STAGES.")
    static void newObjectIsStraightWithoutKnots() {
        dueEach("", "about(0)=2 about(1)=0 about(8)=50 about(9)=0 about(13)=5 about(14)=5");
    }

    @Holds(promise = 1, says = "all ARROWS are in HAND, none at the BACK, THE TALLY, THE PLACE (STAGES laid) are 0, "
        + "nothing is LOST, LEADER 0 leads.")
    static void newObjectHoldsAllArrowsInHand() {
        dueAbout(new TenArrows(), 2, 0, 2, 0, 0, 0, 0);
    }

    @Holds(promise = 1, says = "Two arrows, no ground.")
    static void newObjectHasNoActsNoTextNothingKept() {
        dueEach("", "about(10)=0 about(12)=0 undo()=-3 again(0)=-3 again(1)=-3 wipe()=0");
    }

    @Holds(promise = 1, says = "6 such at most, none at first.")
    static void newObjectHasNoTests() {
        dueEach("", "about(11)=0 untest()=0 changes(0)=171");
    }

    @Holds(promise = 1, says = "THE SEED, a long; 0 at first")
    static void newObjectHasSeedZero() {
        due("seed", 0, new TenArrows().seed(1));
    }

    @Holds(promise = 1, says = "Two arrows, no ground.")
    static void newObjectKnowsNothingOfOthers() {
        Script.played("'A99999L399L399' line() lay() lose() keep(0) keep(1) test(0,1) seed(9) doubled() change()");
        newObjectIsStraightWithoutKnots();
        newObjectHoldsAllArrowsInHand();
        newObjectHasNoActsNoTextNothingKept();
        newObjectHasNoTests();
        newObjectHasSeedZero();
    }

    @Holds(promise = 1, says = "An object is used for at most 512 calls after it has been made")
    static void theLastOfAllCallsAnswersAsTheFirst() {
        TenArrows x = new TenArrows();
        for (int call = 1; call <= 511; call++) {
            due("doubled", call, x.doubled());
        }
        due("byBook, call 512", 1022, x.byBook());
    }

    // ---- promise 2

    @Holds(promise = 2, says = "A byte (0 .. 255) comes behind THE TEXT: how long it is.")
    static void writeTakesTheLeastAndTheMostByte() {
        dueEach("", "write(0)=1 write(255)=2 write(128)=3 write(127)=4 about(12)=4");
    }

    @Holds(promise = 2, says = "BAD; FULL: there are 40.")
    static void writeRefusesWhatIsNoByte() {
        dueEach("write(65)", "write(-1)=-2 write(256)=-2 about(12)=1");
        for (int far : FAR) {
            due("write(" + far + ")", BAD, new TenArrows().write(far));
        }
    }

    @Holds(promise = 2, says = "THE TEXT is bytes (40 at most).")
    static void writeTakesTheFortiethByte() {
        TenArrows x = new TenArrows();
        for (int length = 1; length <= 40; length++) {
            due("write " + length, length, x.write(length));
        }
    }

    @Holds(promise = 2, says = "FULL: there are 40.")
    static void writeRefusesTheFortyFirstByte() {
        dueEach("write(65)*40", "write(65)=-4 write(0)=-4 write(255)=-4 about(12)=40 wipe()=40 write(65)=1");
    }

    @Holds(promise = 2, says = "Of several what is told first.")
    static void writeIntoFullTextIsBadBeforeItIsFull() {
        dueEach("write(65)*40", "write(-1)=-2 write(256)=-2 about(12)=40");
    }

    @Holds(promise = 2, says = "A byte (0 .. 255) comes behind THE TEXT: how long it is.")
    static void writeChangesNoLine() {
        TenArrows x = dueEach("'A35055L000' line() lay()", "write(76)=11 write(49)=12 write(50)=13 write(51)=14");
        dueAbout(x, 0, 3, 1, 1, 2, 1);
        dueEach("'A35055L000' line() write(76) write(49) write(50) write(51)", "about(1)=1 line()=2 stage(1,0)=1");
    }

    // ---- promise 3

    @Holds(promise = 3, says = "THE TEXT is empty: how long it was.")
    static void wipeOfEmptyText() {
        dueEach("", "wipe()=0 wipe()=0 about(12)=0");
    }

    @Holds(promise = 3, says = "THE TEXT is empty: how long it was.")
    static void wipeOfOneByteAndOfFullText() {
        dueEach("write(65)", "wipe()=1 about(12)=0 fault()=0 wipe()=0");
        dueEach("write(65)*40", "wipe()=40 about(12)=0 fault()=0 wipe()=0");
    }

    @Holds(promise = 3, says = "THE TEXT is empty: how long it was.")
    static void wipeLeavesTheLineAndWhatWasDone() {
        TenArrows x = dueEach("'A35055L124' line() lay() lose() keep(0) test(1,1) seed(3)", "wipe()=10 line()=-3");
        dueAbout(x, 0, 3, 1, 1, 2, 0, 0, 1, 0, 50, 0, 2, 1, 0, 5, 5);
        due("stage", 19996, x.stage(0, 3));
        due("again", 1, x.again(0));
        due("seed", 3, x.seed(0));
    }

    @Holds(promise = 3, says = "THE TEXT is empty: how long it was.")
    static void wipedBytesAreNoPartOfALaterText() {
        dueEach("'A29055L399L399' wipe() 'A20000'", "fault()=-9 line()=0 stage(0,0)=-1 about(8)=45");
    }

    // ---- promise 4

    /** Whether a byte may stand at a place of a LINE with at most eight STAGES. */
    private static boolean mayStand(int place, int letter) {
        if (place >= 38) {
            return false;
        }
        String allowed = place == 0 ? "A" : place == 1 ? "23456789" : place < 6 ? "0123456789"
            : place % 4 == 2 ? "L" : place % 4 == 3 ? "0123" : "0123456789";
        return allowed.indexOf(letter) >= 0;
    }

    private static boolean isEnd(int length) {
        return length >= 6 && length <= 38 && length % 4 == 2;
    }

    @Holds(promise = 4, says = "FAULT: the place of the first byte by which THE TEXT can be no LINE")
    static void faultOfEachByteAtEachPlace() {
        for (int place = 0; place <= 38; place++) {
            for (int letter = 0; letter <= 255; letter++) {
                TenArrows x = written(EIGHT.substring(0, place));
                x.write(letter);
                int want = !mayStand(place, letter) ? place : isEnd(place + 1) ? NONE : place + 1;
                due("byte " + letter + " at " + place, want, x.fault());
            }
        }
    }

    @Holds(promise = 4, says = "whatever came behind it (its length set aside)")
    static void faultStaysWhateverComesBehind() {
        for (int place = 0; place < 38; place++) {
            TenArrows x = written(EIGHT.substring(0, place));
            x.write('x');
            for (int more = place + 1; more < 40; more++) {
                x.write(EIGHT.charAt(more % 38));
                due("fault at " + place + " of " + (more + 1), place, x.fault());
            }
        }
    }

    @Holds(promise = 4, says = "the place of the first byte by which THE TEXT can be no LINE")
    static void faultIsTheFirstOfSeveral() {
        due("A1x", 1, written("A1x").fault());
        due("xxx", 0, written("xxx").fault());
        due("A25055L4:x", 7, written("A25055L4:x").fault());
        due("A2505:L4", 5, written("A2505:L4").fault());
    }

    @Holds(promise = 4, says = "its length, if it is only not at its end")
    static void faultOfEachBeginningIsItsLength() {
        for (int length = 0; length < 38; length++) {
            due("length " + length, isEnd(length) ? NONE : length, written(EIGHT.substring(0, length)).fault());
        }
    }

    @Holds(promise = 4, says = "its length, if it is only not at its end")
    static void faultOfEmptyTextIsZero() {
        dueEach("", "fault()=0");
        dueEach("'A20000' wipe()", "fault()=0");
    }

    @Holds(promise = 4, says = "FAULT; NONE.")
    static void faultOfEachNumberOfStagesIsNone() {
        for (int stages = 0; stages <= 8; stages++) {
            due(stages + " stages", NONE, written(EIGHT.substring(0, 6 + 4 * stages)).fault());
        }
    }

    @Holds(promise = 4, says = "(8 at most)")
    static void faultOfTheNinthStageIsItsFirstByte() {
        due("ninth, begun", 38, written(EIGHT + "L").fault());
        due("ninth, full text", 38, written(EIGHT + "L0").fault());
        due("none too many", NONE, written(EIGHT).fault());
    }

    @Holds(promise = 4, says = "ARROWS (2 .. 9)")
    static void faultOfTooFewArrows() {
        due("A1", 1, written("A15055").fault());
        due("A0", 1, written("A05055").fault());
        due("A2", NONE, written("A25055").fault());
        due("A9", NONE, written("A95055").fault());
    }

    @Holds(promise = 4, says = "GROUND of KIND k (0 LEVEL, 1 ASLANT, 2 STEPPED, 3 ROUND), v (0 .. 9), "
        + "GORSE g (0 .. 9 tenths)")
    static void faultOfTheFourthKind() {
        due("L4", 7, written("A25055L400").fault());
        due("L399", NONE, written("A25055L399").fault());
        due("L0:0", 8, written("A25055L0:0").fault());
        due("L00:", 9, written("A25055L00:").fault());
    }

    @Holds(promise = 4, says = "FAULT; NONE.")
    static void faultChangesNothing() {
        TenArrows x = dueEach("'A35055L000' line() lay() write(76)", "fault()=11 fault()=11");
        dueAbout(x, 0, 3, 1, 1, 2, 1, 0, 0, 0, 50, 0, 1, 0, 11);
    }

    // ---- promise 5

    @Holds(promise = 5, says = "STAGES, none or more, one behind the other from 0 (8 at most)")
    static void lineOfNoneToEightStages() {
        for (int stages = 0; stages <= 8; stages++) {
            TenArrows x = written(EIGHT.substring(0, 6 + 4 * stages));
            due("line of " + stages, stages, x.line());
            due("about(1)", stages, x.about(1));
        }
    }

    @Holds(promise = 5, says = "A, ARROWS (2 .. 9), STRETCH (0 .. 9, told as 5 more), KNOTS (0 .. 9), "
        + "BENT of LEADERS 0 and 1 (0 .. 9 each, told as 5 more)")
    static void lineOfTheLeastAndTheMost() {
        TenArrows least = dueEach("'A20000L000'", "line()=1 stage(0,0)=0 stage(0,1)=0 stage(0,2)=0");
        dueAbout(least, 0, 2, 1, 0, 2, 0, 0, 0, 0, 45, 0, 0, 0, 10, 0, 0);
        TenArrows most = dueEach("'A99999L399'", "line()=1 stage(0,0)=3 stage(0,1)=9 stage(0,2)=9");
        dueAbout(most, 0, 9, 1, 0, 9, 0, 0, 0, 0, 54, 9, 0, 0, 10, 9, 9);
    }

    @Holds(promise = 5, says = "BENT of LEADERS 0 and 1")
    static void lineTellsTheBentOfEachLeader() {
        dueEach("'A25090' line()", "about(13)=9 about(14)=0");
        dueEach("'A25009' line()", "about(13)=0 about(14)=9");
    }

    @Holds(promise = 5, says = "LATE: a FAULT.")
    static void lineOfEmptyTextIsLate() {
        dueEach("", "line()=-3 about(0)=2");
        dueEach("'A35055L000' line() wipe()", "line()=-3 about(0)=3 about(1)=1");
    }

    @Holds(promise = 5, says = "LATE: a FAULT.")
    static void lineOfEachTextThatIsNotAtItsEndIsLate() {
        for (int length = 0; length < 38; length++) {
            due("length " + length, isEnd(length) ? (length - 6) / 4 : LATE,
                written(EIGHT.substring(0, length)).line());
        }
    }

    @Holds(promise = 5, says = "LATE: a FAULT.")
    static void lineOfTooManyStagesIsLate() {
        due("39 bytes", LATE, written(EIGHT + "L").line());
        due("40 bytes", LATE, written(EIGHT + "L0").line());
    }

    @Holds(promise = 5, says = "LATE: a FAULT.")
    static void lineWithAWrongByteIsLateAndTheOldLineStays() {
        TenArrows x = dueEach("'A41698L199L000' line() keep(1) lay() change() 'A25055L500'", "line()=-3 about(10)=2");
        dueAbout(x, 0, 4, 2, 1, 3, 1, 0, 0, 1, 46, 6, 2, 0, 10, 9, 8);
        due("undo", 1, x.undo());
        due("again", 0, x.again(1));
    }

    @Holds(promise = 5, says = "When THE LINE is made anew, all ARROWS are in HAND, none at the BACK, THE TALLY, "
        + "THE PLACE (STAGES laid) are 0, nothing is LOST, LEADER 0 leads.")
    static void lineMadeAnewBeginsAnew() {
        String busy = "'A36355L000L000L000L000' line() lay()*2 lose() lay()*2 doubled() change() stretch(3) clear() ";
        // One of three is lost: two come into HAND before the last STAGE, and one of them is at the BACK again.
        dueAbout(Script.played(busy), 2, 4, 1, 1, 2, 2, 1, 54, 0, 9);
        TenArrows x = dueEach(busy, "line()=4 stage(0,3)=-9 stage(3,3)=-9 stage(1,4)=0 truly()=20000 byBook()=0");
        dueAbout(x, 2, 0, 3, 0, 0, 0, 0, 51, 3, 0);
    }

    @Holds(promise = 5, says = "no ACTS; what was kept is gone; TESTS, THE SEED stay")
    static void lineForgetsAFullRowOfActs() {
        dueEach("'A25055L000' line() change()*15", "about(10)=14 line()=1 about(10)=0 undo()=-3 about(7)=0");
    }

    @Holds(promise = 5, says = "no ACTS; what was kept is gone; TESTS, THE SEED stay")
    static void lineDropsBothSlots() {
        dueEach("'A25055L000' line() keep(0) keep(1)", "line()=1 again(0)=-3 again(1)=-3 keep(0)=0 again(0)=0 again(1)=-3");
    }

    @Holds(promise = 5, says = "no ACTS; what was kept is gone; TESTS, THE SEED stay")
    static void lineLeavesTestsAndSeed() {
        dueEach("test(0,0)*6 seed(-5) 'A25055'", "line()=0 about(11)=6 test(0,0)=-4 changes(0)=153 seed(0)=-5");
    }

    @Holds(promise = 5, says = "THE TEXT is THE LINE")
    static void lineLeavesTheText() {
        dueEach("'A25055L000'", "line()=1 about(12)=10 fault()=-9 line()=1 write(76)=11 fault()=11");
    }

    @Holds(promise = 5, says = "THE TEXT is THE LINE")
    static void lineOfFewerStagesHasNoOldOnes() {
        dueEach("'A25055L399L399L399' line() 'A25055L000' line()",
            "stage(1,0)=-1 find(1)=-1 shows(1,2)=-1 off(2,0)=-2 lay()=20000 lay()=-3 back(1)=-3");
    }

    // ---- promise 6

    @Holds(promise = 6, says = "BAD.")
    static void aboutRefusesWhatIsTooSmallOrTooLarge() {
        dueEach("", "about(-1)=-2 about(15)=-2 about(0)=2 about(14)=5");
        for (int far : FAR) {
            due("about(" + far + ")", BAD, new TenArrows().about(far));
        }
    }

    @Holds(promise = 6, says = "LOST ones (6: bits of STAGES)")
    static void aboutTellsAllEightLost() {
        TenArrows x = Script.played(lined("A95055", "L000", 8));
        for (int stage = 0; stage < 8; stage++) {
            x.lay();
            x.lose();
            due("bits behind stage " + stage, (2 << stage) - 1, x.about(6));
        }
        dueAbout(x, 2, 8, 1, 0, 0);
    }

    @Holds(promise = 6, says = "ARROWS (what = 0), STAGES (1), THE PLACE (2), in HAND (3), at the BACK (4), "
        + "THE TALLY (5)")
    static void aboutTellsTheLastArrowOutOfHand() {
        TenArrows x = Script.played(lined("A25055", "L000", 3) + "lay()*2");
        dueAbout(x, 0, 2, 3, 2, 0, 2, 0);
        x.lay();
        dueAbout(x, 0, 2, 3, 3, 1, 1, 1);
    }

    @Holds(promise = 6, says = "who leads (7), STRETCH (8), KNOTS (9)")
    static void aboutTellsTheLeastAndTheMostStretchAndKnots() {
        dueEach("'A20000' line() stretch(-3) stretch(-1)", "about(7)=0 about(8)=41 about(9)=0");
        dueEach("'A29900' line() stretch(3) stretch(2) change()", "about(7)=1 about(8)=59 about(9)=9");
    }

    @Holds(promise = 6, says = "ACTS (10), TESTS (11), bytes of THE TEXT (12)")
    static void aboutTellsFullRows() {
        dueEach("write(0)*40 test(0,0)*6 change()*14", "about(10)=14 about(11)=6 about(12)=40");
        dueEach("write(0)*41 test(0,0)*7 change()*15", "about(10)=14 about(11)=6 about(12)=40");
    }

    @Holds(promise = 6, says = "BENT of LEADER 0 (13: 5 more), of LEADER 1 (14: 5 more)")
    static void aboutTellsTheBentWhoeverLeads() {
        dueEach("'A25090' line() change()", "about(13)=9 about(14)=0");
    }

    // ---- promise 7

    @Holds(promise = 7, says = "UNKNOWN; BAD.")
    static void stageRefusesWhatIsNoStage() {
        dueEach("'A25055L123L234' line()", "stage(-1,0)=-1 stage(2,0)=-1 stage(8,0)=-1 stage(0,0)=1 stage(1,0)=2");
        dueEach("'A25055' line()", "stage(0,0)=-1");
        for (int far : FAR) {
            dueBehind(lined("A25055", "L000", 8), "stage(" + far + ",0)", UNKNOWN);
        }
    }

    @Holds(promise = 7, says = "there is no such STAGE, SOURCE, SLOT")
    static void stageOfEightIsTheLast() {
        dueEach("'A25055L000L000L000L000L000L000L000L389' line()", "stage(7,0)=3 stage(7,1)=8 stage(7,2)=9 stage(8,0)=-1");
    }

    @Holds(promise = 7, says = "UNKNOWN; BAD.")
    static void stageRefusesWhatIsTooSmallOrTooLarge() {
        dueEach("'A25055L123' line()", "stage(0,-1)=-2 stage(0,5)=-2 stage(0,0)=1 stage(0,4)=0");
        for (int far : FAR) {
            dueBehind(lined("A25055", "L000", 1), "stage(0," + far + ")", BAD);
        }
    }

    @Holds(promise = 7, says = "Of several what is told first.")
    static void stageIsUnknownBeforeItIsBad() {
        dueEach("'A25055L123' line()", "stage(1,5)=-1 stage(-1,-1)=-1");
    }

    @Holds(promise = 7, says = "its ERROR as it was laid (3; NONE: it is not laid)")
    static void stageHasNoErrorBeforeItIsLaidAndWhenThatIsUndone() {
        dueEach("'A25055L130L120' line()",
            "stage(0,3)=-9 lay()=19991 stage(0,3)=19991 stage(1,3)=-9 undo()=0 stage(0,3)=-9");
    }

    @Holds(promise = 7, says = "its ERROR as it was laid (3; NONE: it is not laid)")
    static void stageKeepsItsErrorWhateverComesLater() {
        dueEach("'A25064L130L120' line() lay()",
            "stage(0,3)=19992 stretch(3)=53 knot()=1 change()=1 stage(0,3)=19992 lay()=19997 stage(0,3)=19992");
    }

    @Holds(promise = 7, says = "1 if an ARROW is LOST there (4)")
    static void stageTellsWhereAnArrowIsLost() {
        dueEach("'A35055L000L000' line()",
            "stage(0,4)=0 lay()=20000 stage(0,4)=0 lose()=0 stage(0,4)=1 lay()=20000 stage(1,4)=0 stage(0,4)=1 "
                + "find(0)=2 stage(0,4)=0");
    }

    // ---- promise 8

    @Holds(promise = 8, says = "BY THE BOOK: chains: ARROWS times THE TALLY, and those at the BACK.")
    static void byBookOfNothingLaid() {
        dueEach("", "byBook()=0");
        dueEach("'A95055L000' line()", "byBook()=0");
    }

    @Holds(promise = 8, says = "BY THE BOOK: chains: ARROWS times THE TALLY, and those at the BACK.")
    static void byBookStaysTrueWhenArrowsComeIntoHand() {
        for (int arrows = 2; arrows <= 9; arrows++) {
            TenArrows x = Script.played(lined("A" + arrows + "5055", "L000", 8));
            for (int laid = 1; laid <= 8; laid++) {
                x.lay();
                due("byBook of " + laid + " with " + arrows, laid, x.byBook());
            }
        }
    }

    @Holds(promise = 8, says = "BY THE BOOK: chains: ARROWS times THE TALLY, and those at the BACK.")
    static void byBookOfLostArrowsIsTooLittleOrTooMuch() {
        // One of three is lost: the other two come into HAND as if they were three.
        dueEach(lined("A35055", "L000", 8) + "lay() lose()",
            "byBook()=0 lay()=20000 byBook()=1 lay()=20000 byBook()=2 lay()=20000 byBook()=4 lay()=20000 byBook()=5 "
                + "lay()=20000 byBook()=7");
    }

    @Holds(promise = 8, says = "BY THE BOOK")
    static void byBookOfManyDoubled() {
        dueEach("'A95055' line() doubled()*400", "byBook()=3600");
    }

    // ---- promise 9

    @Holds(promise = 9, says = "TRULY: 1000 for each STAGE laid, and its ERROR, in tenths of links.")
    static void trulyOfNothingLaid() {
        dueEach("", "truly()=20000");
        dueEach("'A20909L199' line()", "truly()=20000");
    }

    @Holds(promise = 9, says = "TRULY: 1000 for each STAGE laid, and its ERROR, in tenths of links.")
    static void trulyOfTheLeastErrors() {
        // STRETCH -9, ASLANT 9, BENT -5, KNOTS 9: 104 less at each of eight STAGES
        dueEach(lined("A90900", "L190", 8) + "stretch(-3) stretch(-1) lay()*8", "truly()=27168");
    }

    @Holds(promise = 9, says = "TRULY: 1000 for each STAGE laid, and its ERROR, in tenths of links.")
    static void trulyOfTheMostErrors() {
        // STRETCH 9, LEVEL, BENT 4: 13 more at each of eight STAGES
        dueEach(lined("A99099", "L090", 8) + "stretch(3) stretch(2) lay()*8", "truly()=28104");
    }

    @Holds(promise = 9, says = "ERRORS, OFF, TRULY are told 20000 more, STRETCH 50 more.")
    static void trulyDoesNotMindTheBook() {
        dueEach("'A25055L000L110' line() lay()*2", "truly()=21999 lose()=1 truly()=21999 doubled()=1 truly()=21999 "
            + "stretch(3)=53 truly()=21999 find(1)=2 truly()=21999");
    }
}
