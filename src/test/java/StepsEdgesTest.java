/** The edges of the term "Steps" and of promise 5. */
public final class StepsEdgesTest {
    private static final String TOOTH = "A step of an axis goes up or down by the tooth next to the place at which it is: "
        + "up by the tooth of that number, down by the one of the number that is less by 1 (23 for the place 0).";
    private static final String TOLL = "Its toll is 1, and the load, and the wear of the tooth divided by setting 1;";
    private static final String GREASED_TOLL = "if the axis has greased steps, half of that, rounded up.";
    private static final String TURN = "If the way of the axis is the other one (not 0), the step is a turn:";
    private static final String SLIP =
        "A turn by a tooth with a wear of at least setting 2 (as it is ahead of this step) slips.";
    private static final String BELIEVED = "The place that the axis believes becomes the next one in this way.";
    private static final String PLACE = "The place at which it is does, too, unless the step slips.";
    private static final String WEAR = "The wear of the tooth becomes greater by setting 0, but at most 99.";

    public static void main(String[] args) {
        Edges.run(StepsEdgesTest.class);
    }

    private static void onlyWorn(ArmTolls x, int tooth) {
        for (int other = 0; other <= 23; other++) {
            Check.due("wear(0, " + other + ")", x.wear(0, other), other == tooth ? 7 : 0);
        }
    }

    /** One step from a place, by a wear of 7, when all steps before it wore nothing. */
    private static ArmTolls steppedOnce(int place, int way) {
        ArmTolls x = Arms.unwearing();
        if (place > 0) {
            x.step(0, place);
        }
        x.set(0, 7);
        x.step(0, way);
        return x;
    }

    @Edge(TOOTH)
    static void steps_upGoesByTheToothOfThePlace() {
        onlyWorn(steppedOnce(5, 1), 5);
    }

    @Edge(TOOTH)
    static void steps_upFromPlace0GoesByTheTooth0() {
        onlyWorn(steppedOnce(0, 1), 0);
    }

    @Edge(TOOTH)
    static void steps_upFromPlace23GoesByTheTooth23() {
        onlyWorn(steppedOnce(23, 1), 23);
    }

    @Edge(TOOTH)
    static void steps_downGoesByTheToothThatIsLessBy1() {
        onlyWorn(steppedOnce(5, -1), 4);
    }

    @Edge(TOOTH)
    static void steps_downFromPlace1GoesByTheTooth0() {
        onlyWorn(steppedOnce(1, -1), 0);
    }

    @Edge(TOOTH)
    static void steps_downFromPlace0GoesByTheTooth23() {
        onlyWorn(steppedOnce(0, -1), 23);
    }

    @Edge(TOOTH)
    static void steps_theToothIsByThePlaceAtWhichItIsNotByTheBelievedOne() {
        ArmTolls x = Arms.slipped();
        x.set(0, 7);
        x.step(0, 1);
        Check.due("wear(0, 1), of the place 1", x.wear(0, 1), 7);
        Check.due("wear(0, 0), of the believed place 0", x.wear(0, 0), 40);
    }

    @Edge(TOLL)
    static void steps_theTollIs1WithoutLoadAndWear() {
        ArmTolls x = new ArmTolls();
        x.step(0, 1);
        Check.due("axis(0, 8)", x.axis(0, 8), 1);
    }

    @Edge(TOLL)
    static void steps_theTollHasTheLoad() {
        for (int load = 0; load <= 5; load++) {
            ArmTolls x = new ArmTolls();
            x.load(0, load);
            x.step(0, -1);
            Check.due("axis(0, 8) with a load of " + load, x.axis(0, 8), 1 + load);
        }
    }

    @Edge(TOLL)
    static void steps_theTollHasTheWearDividedBySetting1() {
        int[] wears = {9, 10, 49, 50, 98};
        int[] tollsBy10 = {1, 2, 5, 6, 10};
        int[] tollsBy50 = {1, 1, 1, 2, 2};
        for (int i = 0; i < wears.length; i++) {
            ArmTolls x = Arms.worn(0, wears[i]);
            Check.due("toll(0, true), " + wears[i] + " by 10", x.toll(0, true), tollsBy10[i]);
            x.set(1, 50);
            Check.due("toll(0, true), " + wears[i] + " by 50", x.toll(0, true), tollsBy50[i]);
            x.set(1, 1);
            int before = x.count(2);
            x.step(0, 1);
            Check.due("toll of the step, " + wears[i] + " by 1", x.count(2) - before, 1 + wears[i]);
        }
    }

    @Edge(TOLL)
    static void steps_theGreatestTollIs105() {
        ArmTolls x = Arms.worn(0, 98);
        x.set(0, 1);
        x.step(0, 1);
        x.set(0, 0);
        x.step(0, 23);
        x.load(0, 5);
        x.set(1, 1);
        int before = x.count(0);
        x.step(0, 1);
        Check.due("the purse before and after", before - x.count(0), 105);
    }

    @Edge(GREASED_TOLL)
    static void steps_theGreasedTollIsHalfRoundedUp() {
        int[] tolls = {1, 1, 2, 2, 3, 3};
        for (int load = 0; load <= 5; load++) {
            ArmTolls x = new ArmTolls();
            x.load(0, load);
            x.grease(0);
            x.step(0, 1);
            Check.due("axis(0, 8), half of " + (1 + load), x.axis(0, 8), tolls[load]);
        }
    }

    @Edge(GREASED_TOLL)
    static void steps_theLastGreasedStepIsHalfAndTheNextOneWhole() {
        ArmTolls x = new ArmTolls();
        x.load(0, 5);
        x.set(4, 2);
        x.grease(0);
        x.step(0, 2);
        Check.due("axis(0, 8) after the last greased step", x.axis(0, 8), 6);
        x.step(0, 1);
        Check.due("axis(0, 8) after the one behind it", x.axis(0, 8), 12);
    }

    @Edge("If the purse has less, the step cannot be made.")
    static void steps_aPurseWithJustTheTollMakesTheStep() {
        ArmTolls x = Check.armWithPurse(6);
        x.load(0, 5);
        Check.due("step(0, 1) with 6 of 6", x.step(0, 1), 1);
        Check.due("count(0)", x.count(0), 0);
    }

    @Edge("If the purse has less, the step cannot be made.")
    static void steps_aPurseWith1LessThanTheTollDoesNot() {
        ArmTolls x = Check.armWithPurse(5);
        x.load(0, 5);
        Check.refuses(x, "step(0, 1) with 5 of 6", Check.STATE, y -> y.step(0, 1));
        Check.refuses(x, "step(0, -1) with 5 of 6", Check.STATE, y -> y.step(0, -1));
    }

    @Edge("If the purse has less, the step cannot be made.")
    static void steps_anEmptyPurseMakesNoStepAlsoAGreasedOne() {
        ArmTolls x = Check.armWithPurse(15);
        x.grease(0);
        Check.refuses(x, "step(0, 1) with 0 of 1", Check.STATE, y -> y.step(0, 1));
    }

    @Edge("Otherwise:\n- The purse becomes less by the toll,")
    static void steps_thePurseBecomesLessByTheTollDownTo0() {
        ArmTolls x = Check.armWithPurse(5);
        x.load(0, 1);
        x.step(0, 1);
        Check.due("count(0)", x.count(0), 3);
        x.step(0, 1);
        Check.due("count(0)", x.count(0), 1);
        x.load(0, 0);
        x.step(0, 1);
        Check.due("count(0)", x.count(0), 0);
    }

    @Edge("and greased steps become 1 less, if there are some.")
    static void steps_greasedStepsBecome1Less() {
        ArmTolls x = new ArmTolls();
        x.set(4, 3);
        x.grease(0);
        for (int left = 2; left >= 0; left--) {
            x.step(0, 1);
            Check.due("axis(0, 5)", x.axis(0, 5), left);
        }
    }

    @Edge("and greased steps become 1 less, if there are some.")
    static void steps_noGreasedStepsStay0() {
        ArmTolls x = new ArmTolls();
        x.step(0, 2);
        Check.due("axis(0, 5) without grease", x.axis(0, 5), 0);
        x.set(4, 1);
        x.grease(0);
        x.step(0, 3);
        Check.due("axis(0, 5) after 3 steps with 1 greased", x.axis(0, 5), 0);
    }

    @Edge(TURN)
    static void steps_theFirstStepIsNoTurn() {
        ArmTolls x = new ArmTolls();
        x.step(0, 1);
        x.step(1, -1);
        Check.due("axis(0, 10)", x.axis(0, 10), 0);
        Check.due("axis(1, 10)", x.axis(1, 10), 0);
        Check.due("axis(0, 4)", x.axis(0, 4), 0);
        Check.due("axis(1, 4)", x.axis(1, 4), 0);
    }

    @Edge(TURN)
    static void steps_theFirstStepAfterHomingIsNoTurn() {
        ArmTolls x = new ArmTolls();
        x.step(0, -1);
        x.home(0);
        x.step(0, 1);
        Check.due("axis(0, 10)", x.axis(0, 10), 0);
    }

    @Edge(TURN)
    static void steps_aStepInTheSameWayIsNoTurn() {
        ArmTolls x = new ArmTolls();
        x.step(0, 2);
        x.step(0, 1);
        x.step(1, -2);
        x.step(1, -1);
        Check.due("axis(0, 10)", x.axis(0, 10), 0);
        Check.due("axis(1, 10)", x.axis(1, 10), 0);
    }

    @Edge(TURN)
    static void steps_aStepInTheOtherWayIsATurn() {
        ArmTolls x = new ArmTolls();
        x.step(0, 1);
        x.step(0, -2);
        Check.due("axis(0, 10), up and down", x.axis(0, 10), 1);
        x.step(0, 2);
        Check.due("axis(0, 10), and up", x.axis(0, 10), 2);
        x.step(1, -1);
        x.step(1, 1);
        Check.due("axis(1, 10), down and up", x.axis(1, 10), 1);
    }

    /** An arm whose axis 0 made so many turns. */
    private static ArmTolls turned(int turns) {
        ArmTolls x = Arms.unwearing();
        x.step(0, 1);
        for (int turn = 1; turn <= turns; turn++) {
            x.step(0, turn % 2 == 1 ? -1 : 1);
        }
        Check.due("axis(0, 10)", x.axis(0, 10), turns);
        return x;
    }

    @Edge("the slack becomes 1 more, but at most 12.")
    static void steps_aTurnMakesTheSlack1More() {
        for (int turns = 0; turns <= 11; turns++) {
            Check.due("axis(0, 4) after " + turns + " turns", turned(turns).axis(0, 4), turns);
        }
    }

    @Edge("the slack becomes 1 more, but at most 12.")
    static void steps_theSlackIs12AtMost() {
        Check.due("axis(0, 4) after 12 turns", turned(12).axis(0, 4), 12);
        Check.due("axis(0, 4) after 13 turns", turned(13).axis(0, 4), 12);
        Check.due("axis(0, 4) after 20 turns", turned(20).axis(0, 4), 12);
    }

    /** The axis 0 is at the place 1, and its next step down is a turn by the tooth 0 with this wear. */
    private static ArmTolls aheadOfATurn(int wear) {
        ArmTolls x = Arms.worn(0, wear);
        x.step(0, 1);
        return x;
    }

    private static void turnSlips(int wear, int wearThatSlips, boolean isDue) {
        ArmTolls x = aheadOfATurn(wear);
        x.set(2, wearThatSlips);
        x.step(0, -1);
        String turn = " after a turn by a wear of " + wear + " of " + wearThatSlips;
        Check.due("axis(0, 7)" + turn, x.axis(0, 7), isDue ? 1 : 0);
        Check.due("axis(0, 0)" + turn, x.axis(0, 0), isDue ? 1 : 0);
        Check.due("axis(0, 4)" + turn, x.axis(0, 4), 1);
    }

    @Edge(SLIP)
    static void steps_aTurnByAWearOfSetting2Slips() {
        turnSlips(40, 40, true);
        turnSlips(98, 98, true);
        turnSlips(1, 1, true);
    }

    @Edge(SLIP)
    static void steps_aTurnByAWearOf1LessDoesNotSlip() {
        turnSlips(39, 40, false);
        turnSlips(98, 99, false);
        turnSlips(0, 1, false);
    }

    @Edge(SLIP)
    static void steps_theWearAheadOfTheStepSlipsNotTheOneAfterIt() {
        ArmTolls x = aheadOfATurn(39);
        x.set(0, 20);
        x.step(0, -1);
        Check.due("wear(0, 0)", x.wear(0, 0), 59);
        Check.axisIs(x, 0, 0, 0, 0, -1, 1, 0);
        Check.due("axis(0, 7)", x.axis(0, 7), 0);
    }

    @Edge(SLIP)
    static void steps_aStepThatIsNoTurnDoesNotSlip() {
        ArmTolls x = Arms.worn(0, 98);
        x.step(0, 1);
        Check.due("axis(0, 7), the first step", x.axis(0, 7), 0);
        x.step(0, 24);
        Check.due("axis(0, 7), a round in the same way", x.axis(0, 7), 0);
        Check.axisIs(x, 0, 1, 1);
    }

    @Edge(BELIEVED)
    static void steps_theBelievedPlaceGoesOnAtASlip() {
        ArmTolls x = aheadOfATurn(40);
        x.step(0, -1);
        Check.due("axis(0, 1)", x.axis(0, 1), 0);
    }

    @Edge(BELIEVED)
    static void steps_theBelievedPlaceAfter23Is0() {
        ArmTolls x = new ArmTolls();
        x.step(0, 23);
        Check.due("axis(0, 1)", x.axis(0, 1), 23);
        x.step(0, 1);
        Check.due("axis(0, 1) after one more step up", x.axis(0, 1), 0);
    }

    @Edge(BELIEVED)
    static void steps_theBelievedPlaceBefore0Is23() {
        ArmTolls x = Arms.slipped();
        x.step(0, -1);
        Check.axisIs(x, 0, 0, 23);
    }

    @Edge(PLACE)
    static void steps_aSlipLeavesThePlace() {
        ArmTolls x = aheadOfATurn(40);
        x.step(0, -1);
        Check.due("axis(0, 0)", x.axis(0, 0), 1);
    }

    @Edge(PLACE)
    static void steps_onlyTheTurnOfSomeStepsSlips() {
        ArmTolls x = aheadOfATurn(40);
        Check.due("step(0, -3)", x.step(0, -3), 3);
        Check.axisIs(x, 0, 23, 22, 0, -1, 1);
        Check.due("axis(0, 7)", x.axis(0, 7), 1);
    }

    @Edge(PLACE)
    static void steps_thePlaceAfter23Is0AndBefore0Is23() {
        ArmTolls x = new ArmTolls();
        x.step(0, -1);
        Check.due("axis(0, 0) after a step down", x.axis(0, 0), 23);
        x.step(0, 1);
        Check.due("axis(0, 0) after a step up", x.axis(0, 0), 0);
    }

    @Edge(WEAR)
    static void steps_theWearBecomes99AtMost() {
        int[] before = {79, 80, 98};
        for (int wear : before) {
            ArmTolls x = Arms.worn(0, wear);
            x.set(0, 20);
            x.step(0, 1);
            Check.due("wear(0, 0), " + wear + " and 20", x.wear(0, 0), 99);
        }
        ArmTolls y = Arms.worn(0, 78);
        y.set(0, 20);
        y.step(0, 1);
        Check.due("wear(0, 0), 78 and 20", y.wear(0, 0), 98);
    }

    @Edge(WEAR)
    static void steps_aWearOf99Stays() {
        ArmTolls x = Arms.worn(0, 98);
        x.set(0, 3);
        x.step(0, 1);
        x.step(0, 24);
        Check.due("wear(0, 0)", x.wear(0, 0), 99);
    }

    @Edge(WEAR)
    static void steps_theWearStaysWithSetting0At0() {
        ArmTolls x = Arms.unwearing();
        x.step(0, 24);
        Check.due("count(5)", x.count(5), 0);
    }

    @Edge(WEAR)
    static void steps_aSlipWearsTheToothToo() {
        ArmTolls x = aheadOfATurn(40);
        x.set(0, 6);
        x.step(0, -1);
        Check.due("wear(0, 0)", x.wear(0, 0), 46);
        Check.due("count(5)", x.count(5), 46);
    }

    @Edge("The way of the axis is that of the step.")
    static void steps_theWayIsThatOfASlipToo() {
        ArmTolls x = aheadOfATurn(40);
        Check.due("axis(0, 3) ahead of it", x.axis(0, 3), 1);
        x.step(0, -1);
        Check.due("axis(0, 3)", x.axis(0, 3), -1);
        x.step(0, -1);
        Check.due("axis(0, 4), the next step is no turn", x.axis(0, 4), 1);
    }

    @Edge("Makes steps, up to the first one that cannot be made.")
    static void promise5_allStepsAreMadeWithJustTheirTolls() {
        ArmTolls x = Check.armWithPurse(24);
        Check.due("step(0, 24) with 24", x.step(0, 24), 24);
        Check.due("count(0)", x.count(0), 0);
    }

    @Edge("Makes steps, up to the first one that cannot be made.")
    static void promise5_theLastStepFailsWith1Less() {
        ArmTolls x = Check.armWithPurse(23);
        Check.due("step(0, 24) with 23", x.step(0, 24), 23);
        Check.axisIs(x, 0, 23, 23);
    }

    @Edge("Makes steps, up to the first one that cannot be made.")
    static void promise5_noStepIsMadeBehindTheOneThatCannotBeMade() {
        ArmTolls x = Check.spentTo(5, Arms.worn(2, 40));
        Check.due("step(0, 5), the third one costs 5 and 3 are left", x.step(0, 5), 2);
        Check.due("count(0)", x.count(0), 3);
        Check.axisIs(x, 0, 2, 2);
    }

    @Edge("axis: its number")
    static void promise5_theFirstAndTheLastAxisStep() {
        ArmTolls x = new ArmTolls();
        Check.due("step(0, 1)", x.step(0, 1), 1);
        Check.due("step(3, 1)", x.step(3, 1), 1);
        Check.due("axis(0, 0)", x.axis(0, 0), 1);
        Check.due("axis(3, 0)", x.axis(3, 0), 1);
    }

    @Edge("steps: -24 to 24, but not 0;")
    static void promise5_stepsAre24AtMost() {
        Check.due("step(0, 24)", new ArmTolls().step(0, 24), 24);
        Check.due("step(0, -24)", new ArmTolls().step(0, -24), 24);
    }

    @Edge("steps: -24 to 24, but not 0;")
    static void promise5_stepsAre1AtLeast() {
        Check.due("step(0, 1)", new ArmTolls().step(0, 1), 1);
        Check.due("step(0, -1)", new ArmTolls().step(0, -1), 1);
    }

    @Edge("below 0 for steps down")
    static void promise5_stepsBelow0GoDown() {
        ArmTolls x = new ArmTolls();
        x.step(0, -1);
        Check.axisIs(x, 0, 23, 23, 0, -1);
        x.step(0, 1);
        Check.axisIs(x, 0, 0, 0, 0, 1);
    }

    @Edge("Returns how many steps were made.")
    static void promise5_stepsDownAndSlipsAreCountedToo() {
        ArmTolls x = aheadOfATurn(40);
        Check.due("step(0, -2), the first one slips", x.step(0, -2), 2);
        Check.axisIs(x, 0, 0, 23);
    }

    @Edge("Throws IndexOutOfBoundsException if there is no such axis")
    static void promise5_noSuchAxisIsRefused() {
        Arms.refusesOutside(0, 3, "step(n, 1)", Check.INDEX, (x, n) -> x.step(n, 1));
    }

    @Edge("Throws IllegalArgumentException if steps is out of range or 0")
    static void promise5_stepsAbove24AreRefused() {
        Check.refusesEach(new ArmTolls(), "step(0, n)", Check.ARGUMENT, Arms.above(24), (y, n) -> y.step(0, n));
    }

    @Edge("Throws IllegalArgumentException if steps is out of range or 0")
    static void promise5_stepsBelowMinus24AreRefused() {
        Check.refusesEach(new ArmTolls(), "step(0, n)", Check.ARGUMENT, Arms.below(-24), (y, n) -> y.step(0, n));
    }

    @Edge("Throws IllegalArgumentException if steps is out of range or 0")
    static void promise5_0StepsAreRefused() {
        Check.refuses(new ArmTolls(), "step(0, 0)", Check.ARGUMENT, y -> y.step(0, 0));
    }

    @Edge("Throws IllegalStateException if the first step cannot be made")
    static void promise5_anEmptyPurseIsRefused() {
        ArmTolls x = Check.armWithPurse(0);
        Check.refuses(x, "step(0, 1) with 0", Check.STATE, y -> y.step(0, 1));
        Check.refuses(x, "step(0, -24) with 0", Check.STATE, y -> y.step(0, -24));
    }

    @Edge("Throws IllegalStateException if the first step cannot be made")
    static void promise5_theFirstStepCountsNotTheLaterOnes() {
        ArmTolls x = Check.spentTo(4, Arms.worn(0, 40));
        Check.refuses(x, "step(0, 5) with 4 of 5 for the first step", Check.STATE, y -> y.step(0, 5));
        Check.due("step(0, -5) with 1 for each step", x.step(0, -5), 4);
    }

    @Edge("Undoable.")
    static void promise5_undoBringsAStepThatSlippedBack() {
        Arms.undoBringsBack(aheadOfATurn(40), "step(0, -3)", x -> x.step(0, -3));
    }

    @Edge("Undoable.")
    static void promise5_undoBringsStepsBackThatCameToAnEnd() {
        Arms.undoBringsBack(Check.armWithPurse(2), "step(0, 5)", x -> x.step(0, 5));
    }
}
