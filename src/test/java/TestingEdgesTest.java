/** Boundary cases of promises 27 to 29: tests of the stretch. */
public final class TestingEdgesTest extends Edges {
    public static void main(String[] args) {
        runAll(TestingEdgesTest.class);
    }

    private static void dueChanges(String script, int many, int first, int stages) {
        dueEach(script, "changes(0)=" + many + " changes(1)=" + first + " changes(2)=" + stages);
    }

    // ---- promise 27

    @Holds(promise = 27, says = "BAD: stage (0 .. 7), e; FULL: 6.")
    static void testRefusesStagesTooSmallAndTooLarge() {
        dueEach("", "test(-1,0)=-2 test(8,0)=-2 about(11)=0 test(0,0)=1 test(7,0)=2");
        for (int far : FAR) {
            dueBehind("", "test(" + far + ",0)", BAD);
        }
    }

    @Holds(promise = 27, says = "TESTS: that at a STAGE (0 .. 7) STRETCH was e (-9 .. 9)")
    static void testRefusesStretchTooSmallAndTooLarge() {
        dueEach("", "test(0,-10)=-2 test(0,10)=-2 about(11)=0 test(0,-9)=1 test(0,9)=2");
        for (int far : FAR) {
            dueBehind("", "test(0," + far + ")", BAD);
        }
    }

    @Holds(promise = 27, says = "6 such at most, none at first.")
    static void testTheSixthAndNoSeventh() {
        dueEach("", "test(1,1)=1 test(1,1)=2 test(1,1)=3 test(1,1)=4 test(1,1)=5 test(1,1)=6 test(1,1)=-4 about(11)=6");
    }

    @Holds(promise = 27, says = "Of several what is told first.")
    static void testIsBadBeforeItIsFull() {
        dueEach("test(0,0)*6", "test(8,0)=-2 test(-1,0)=-2 test(0,10)=-2 test(0,-10)=-2 test(0,0)=-4");
    }

    @Holds(promise = 27, says = "TESTS: how many there are.")
    static void testOfStagesThatTheLineHasNot() {
        dueEach("'A25055L000' line()", "test(7,3)=1 test(1,0)=2 about(11)=2 about(10)=0");
    }

    @Holds(promise = 27, says = "FULL: 6.")
    static void testThatIsFullIsNotTakenIn() {
        // Were the seventh one taken in, nothing would be left.
        dueChanges("test(0,4)*6 test(0,5)", 1, 54, 1);
    }

    // ---- promise 28

    @Holds(promise = 28, says = "There are no TESTS: how many there were.")
    static void untestOfNoneOfOneAndOfAll() {
        dueEach("", "untest()=0 untest()=0");
        dueEach("test(3,3)", "untest()=1 about(11)=0 changes(0)=171 untest()=0");
        dueEach("test(3,3)*6", "untest()=6 about(11)=0 changes(0)=171 untest()=0");
    }

    @Holds(promise = 28, says = "There are no TESTS: how many there were.")
    static void untestMakesRoomInAFullRow() {
        dueEach("test(3,3)*6 untest()", "test(0,5)=1 changes(0)=1 changes(1)=55 about(11)=1");
    }

    @Holds(promise = 28, says = "There are no TESTS: how many there were.")
    static void untestIsNoAct() {
        dueEach("doubled() test(0,0) untest()", "about(10)=1 undo()=0 about(11)=0 about(5)=0");
    }

    // ---- promise 29

    @Holds(promise = 29, says = "CHANGES: how many (what = 0), the first one (1), STAGES (2: bits); NONE. BAD.")
    static void changesRefusesWhatIsTooSmallOrTooLarge() {
        dueEach("", "changes(-1)=-2 changes(3)=-2 changes(0)=171 changes(2)=511");
        for (int far : FAR) {
            dueBehind("", "changes(" + far + ")", BAD);
        }
    }

    @Holds(promise = 29, says = "CHANGES: pairs of a STAGE (0 .. 8) and a STRETCH (-9 .. 9)")
    static void changesWithoutTestsAreAllPairs() {
        dueChanges("", 171, 41, 511);
        dueChanges("'A29055L000' line()", 171, 41, 511);
    }

    @Holds(promise = 29, says = "NONE (of the latter two): there are none.")
    static void changesWhenTestsGainsayOneAnother() {
        dueChanges("test(4,1) test(4,2)", 0, NONE, NONE);
        // It was otherwise, then as told, then otherwise again: that is more than one change.
        dueChanges("test(0,1) test(1,0)", 0, NONE, NONE);
        dueChanges("test(5,1) test(6,2)", 0, NONE, NONE);
    }

    @Holds(promise = 29, says = "NONE (of the latter two): there are none.")
    static void changesWhenThereAreNoneAnyMore() {
        dueEach("test(4,1)", "changes(0)=5 changes(1)=51 changes(2)=31 test(4,2)=2 changes(2)=-9 changes(1)=-9 changes(0)=0 "
            + "untest()=2 changes(2)=511 changes(1)=41 changes(0)=171");
    }

    @Holds(promise = 29, says = "so that it was as told in THE LINE ahead of that STAGE, the other from it on")
    static void changesFromTheFirstStageOn() {
        dueChanges("test(0,-9)", 1, 41, 1);
        dueChanges("test(0,9)", 1, 59, 1);
        dueChanges("test(0,9) test(7,9)", 1, 59, 1);
    }

    @Holds(promise = 29, says = "so that it was as told in THE LINE ahead of that STAGE, the other from it on")
    static void changesFromTheLastStageOn() {
        // As told up to 6, then otherwise at 7: the last STAGE that a TEST can tell.
        dueChanges("test(6,0) test(7,9)", 1, 759, 128);
        dueChanges("test(6,0) test(7,-9)", 1, 741, 128);
    }

    @Holds(promise = 29, says = "CHANGES: pairs of a STAGE (0 .. 8) and a STRETCH (-9 .. 9)")
    static void changesBehindAllTests() {
        // All is as told: from 8 on it may be anything (19), from 0 .. 7 on just what was told (8).
        dueChanges("test(7,0)", 27, 50, 511);
        dueChanges("'A20055' line() test(7,-5)", 27, 45, 511);
        dueChanges("'A29055' line() test(7,4)", 27, 54, 511);
    }

    @Holds(promise = 29, says = "(by STAGES, then from -9 on: 100 times the STAGE, and STRETCH, and 50)")
    static void changesTellsTheFirstByStagesThenByStretch() {
        // As told at 2: from 3 on anything, or 0 itself from 0, 1, 2 on, of which the first STAGE is 0.
        dueChanges("test(2,0)", 6 * 19 + 3, 50, 511);
        // Otherwise at 3: from 0 .. 3 on.
        dueChanges("test(3,-9)", 4, 41, 15);
        // As told at 2, otherwise at 5: from 3, 4 or 5 on.
        dueChanges("test(2,0) test(5,7)", 3, 357, 56);
    }

    @Holds(promise = 29, says = "so that it was as told in THE LINE ahead of that STAGE, the other from it on")
    static void changesGoByTheLineNotByWhatStretchIsNow() {
        dueChanges("'A26055' line() stretch(3) test(0,1) test(1,4)", 1, 154, 2);
        dueChanges("test(0,1) test(1,4) 'A26055' line()", 1, 154, 2);
        dueChanges("test(0,1) test(1,4) 'A27055' line()", 0, NONE, NONE);
    }

    @Holds(promise = 29, says = "STAGES (bits) in some of them")
    static void changesTellsEachStageOnceFromTheFirstToTheEighth() {
        // Otherwise at k and not yet at k - 1: from k on; otherwise at k alone: from 0 .. k on.
        for (int k = 1; k <= 7; k++) {
            dueChanges("test(" + (k - 1) + ",0) test(" + k + ",5)", 1, 100 * k + 55, 1 << k);
            dueChanges("test(" + k + ",5)", k + 1, 55, (2 << k) - 1);
        }
    }

    @Holds(promise = 29, says = "by which all TESTS are so")
    static void changesByAFullRowOfTests() {
        dueChanges("test(0,0) test(1,0) test(2,0) test(4,3) test(5,3) test(6,3)", 2, 353, 24);
        dueChanges("test(0,0) test(1,0) test(2,0) test(4,3) test(5,3) test(6,4)", 0, NONE, NONE);
    }
}
