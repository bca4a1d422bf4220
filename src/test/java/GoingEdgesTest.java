/** The edges of the terms "Homing" and "Going", and of promises 6 and 7: go, home. */
public final class GoingEdgesTest {
    private static final String HOMING = "An axis is homed by steps down, one after the other, until it is at the place 0 "
        + "(which it feels), or a step cannot be made, or 40 steps were made.";
    private static final String HOMED = "If it is at the place 0 then (perhaps without a step), it is homed: "
        + "it believes to be at 0, its slack and its way are 0.";
    private static final String GOING =
        "An axis goes to a place by steps in one way until it believes to be there, or a step cannot be made.";
    private static final String COST = "The cost of a way is the sum of the tolls that its steps would have if the axis was "
        + "where it believes to be, with the wear, the load and the greased steps as they are now, each tooth as it is now, "
        + "greased steps becoming less, as they do.";
    private static final String CHEAPER = "It goes up, if that costs no more than going down.";

    public static void main(String[] args) {
        Edges.run(GoingEdgesTest.class);
    }

    // ---- homing

    @Edge(HOMING)
    static void homing_itStopsAtThePlace0() {
        ArmTolls x = new ArmTolls();
        x.step(0, 1);
        Check.due("home(0) from 1", x.home(0), 1);
        Check.due("axis(0, 0)", x.axis(0, 0), 0);
        Check.due("wear(0, 23), beyond the place 0", x.wear(0, 23), 0);
    }

    @Edge(HOMING)
    static void homing_itGoesDownAlsoFromThePlace23() {
        ArmTolls x = new ArmTolls();
        x.step(0, -1);
        Check.due("home(0) from 23", x.home(0), 23);
        Check.due("wear(0, 23), between 23 and 0", x.wear(0, 23), 3);
        Check.due("wear(0, 22)", x.wear(0, 22), 3);
    }

    @Edge(HOMING)
    static void homing_itFeelsThePlace0WhereItBelievesToBeElsewhere() {
        ArmTolls x = Arms.slipped();
        x.step(0, -1);
        Check.axisIs(x, 0, 0, 23);
        Check.due("home(0) at 0", x.home(0), 0);
        Check.axisIs(x, 0, 0, 0);
    }

    @Edge(HOMING)
    static void homing_itGoesOnWhereItOnlyBelievesToBeAtThePlace0() {
        ArmTolls x = Arms.slipped();
        Check.due("home(0) from 1, believing 0", x.home(0), 1);
        Check.axisIs(x, 0, 0, 0);
    }

    @Edge(HOMING)
    static void homing_itStopsWhereAStepCannotBeMade() {
        ArmTolls x = Check.armWithPurse(7);
        x.step(0, 5);
        x.home(0);
        Check.axisIs(x, 0, 3, 3, 0, -1, 1, 0, 7);
        Check.due("count(0)", x.count(0), 0);
    }

    @Edge(HOMING)
    static void homing_theLastStepIsMadeWithJustItsToll() {
        ArmTolls x = Check.armWithPurse(10);
        x.step(0, 5);
        Check.due("home(0) with 5 of 5", x.home(0), 5);
        Check.due("count(0)", x.count(0), 0);
    }

    @Edge(HOMING)
    static void homing_theMostStepsAre24OfThe40ByASlipAt23() {
        ArmTolls x = Arms.worn(22, 40);
        x.step(0, 23);
        int before = x.axis(0, 7);
        Check.due("home(0) from 23 with a slip", x.home(0), 24);
        Check.due("slips by it", x.axis(0, 7) - before, 1);
        Check.axisIs(x, 0, 0, 0, 0, 0, 0);
    }

    @Edge(HOMED)
    static void homing_atThePlace0ItIsHomedWithoutAStep() {
        ArmTolls x = new ArmTolls();
        x.step(0, 2);
        x.step(0, -2);
        Check.axisIs(x, 0, 0, 0, 0, -1, 1, 0, 4);
        x.home(0);
        Check.axisIs(x, 0, 0, 0, 0, 0, 0, 0, 4, 0, 4, 0, 1, 1);
    }

    @Edge(HOMED)
    static void homing_atThePlace0ItIsHomedWithAnEmptyPurse() {
        ArmTolls x = Check.armWithPurse(0);
        Check.due("home(0)", x.home(0), 0);
        Check.due("axis(0, 11)", x.axis(0, 11), 1);
    }

    @Edge(HOMED)
    static void homing_itBelievesToBeAt0AndSlackAndWayAre0() {
        ArmTolls x = Arms.slipped();
        x.step(0, 4);
        Check.axisIs(x, 0, 5, 4, 0, 1, 2);
        x.home(0);
        Check.axisIs(x, 0, 0, 0, 0, 0, 0);
    }

    @Edge(HOMED)
    static void homing_loadGreaseAndWearStay() {
        ArmTolls x = new ArmTolls();
        x.load(0, 2);
        x.step(0, 2);
        x.grease(0);
        x.home(0);
        Check.axisIs(x, 0, 0, 0, 2, 0, 0, 10);
        Check.due("wear(0, 1)", x.wear(0, 1), 6);
    }

    @Edge(HOMED)
    static void homing_ifItIsNotAtThePlace0ThenItIsNotHomed() {
        ArmTolls x = Check.spentTo(1, Arms.slipped());
        x.load(0, 1);
        x.home(0);
        Check.axisIs(x, 0, 1, 0, 1, -1, 1);
    }

    // ---- going

    @Edge(GOING)
    static void going_itStopsWhereItBelievesToBeThere() {
        ArmTolls x = Arms.worn(0, 40);
        x.step(0, 1);
        Check.due("go(0, 23) down, with a slip", x.go(0, 23), 5 + 5);
        Check.axisIs(x, 0, 0, 23, 0, -1, 1);
    }

    @Edge(GOING)
    static void going_itStopsWhereAStepCannotBeMade() {
        ArmTolls x = Check.armWithPurse(3);
        Check.due("go(0, 10)", x.go(0, 10), 3);
        Check.axisIs(x, 0, 3, 3, 0, 1);
    }

    @Edge(GOING)
    static void going_theLastStepIsMadeWithJustItsToll() {
        ArmTolls x = Check.armWithPurse(10);
        Check.due("go(0, 10)", x.go(0, 10), 10);
        Check.axisIs(x, 0, 10, 10, 0, 1);
        Check.due("count(0)", x.count(0), 0);
    }

    @Edge(GOING)
    static void going_itPassesFrom23To0AndFrom0To23() {
        ArmTolls x = new ArmTolls();
        Check.due("go(0, 22)", x.go(0, 22), 2);
        Check.axisIs(x, 0, 22, 22, 0, -1);
        Check.due("go(0, 1)", x.go(0, 1), 3);
        Check.axisIs(x, 0, 1, 1, 0, 1);
    }

    @Edge(COST)
    static void going_theCostIsFromWhereItBelievesToBe() {
        ArmTolls x = Arms.slipped();
        Check.due("cost(0, 1, true) by the tooth 0", x.cost(0, 1, true), 5);
        Check.due("cost(0, 23, false) by the tooth 23", x.cost(0, 23, false), 1);
    }

    @Edge(COST)
    static void going_theCostTakesEachToothAsItIsNow() {
        ArmTolls x = Arms.worn(3, 20);
        x.set(0, 20);
        x.set(1, 1);
        Check.due("cost(0, 23, true)", x.cost(0, 23, true), 23 + 20);
        Check.due("cost(0, 23, true) once more", x.cost(0, 23, true), 23 + 20);
        Check.due("wear(0, 2)", x.wear(0, 2), 0);
    }

    @Edge(COST)
    static void going_theCostHasTheLoadOfEachStep() {
        ArmTolls x = new ArmTolls();
        x.load(0, 5);
        Check.due("cost(0, 23, true)", x.cost(0, 23, true), 23 * 6);
        Check.due("cost(0, 23, false)", x.cost(0, 23, false), 6);
    }

    @Edge(COST)
    static void going_theCostLetsGreasedStepsBecomeLess() {
        ArmTolls x = new ArmTolls();
        x.load(0, 4);
        x.set(4, 2);
        x.grease(0);
        int[] costs = {0, 3, 6, 11, 16};
        for (int place = 0; place <= 4; place++) {
            Check.due("cost(0, " + place + ", true)", x.cost(0, place, true), costs[place]);
        }
        Check.due("axis(0, 5)", x.axis(0, 5), 2);
    }

    @Edge(CHEAPER)
    static void going_itGoesUpIfBothWaysCostTheSame() {
        ArmTolls x = new ArmTolls();
        x.go(0, 12);
        Check.due("axis(0, 3)", x.axis(0, 3), 1);
        ArmTolls y = Arms.worn(5, 20);
        Check.due("cost(0, 11, true)", y.cost(0, 11, true), 13);
        Check.due("cost(0, 11, false)", y.cost(0, 11, false), 13);
        y.go(0, 11);
        Check.due("axis(0, 3), by unlike numbers of steps", y.axis(0, 3), 1);
    }

    @Edge(CHEAPER)
    static void going_itGoesDownIfThatCosts1Less() {
        ArmTolls x = Arms.worn(5, 10);
        x.go(0, 12);
        Check.due("axis(0, 3)", x.axis(0, 3), -1);
    }

    @Edge(CHEAPER)
    static void going_itGoesUpIfThatCosts1Less() {
        ArmTolls x = Arms.worn(17, 10);
        x.go(0, 12);
        Check.due("axis(0, 3)", x.axis(0, 3), 1);
        ArmTolls y = Arms.worn(17, 30);
        y.go(0, 14);
        Check.due("axis(0, 3), by more steps", y.axis(0, 3), -1);
        y.home(0);
        y.go(0, 13);
        Check.due("axis(0, 3), by more steps", y.axis(0, 3), 1);
    }

    @Edge("(A place at which it believes to be is reached without a step.)")
    static void going_aBelievedPlaceNeedsNoStep() {
        ArmTolls x = Arms.slipped();
        int steps = x.axis(0, 6);
        Check.due("go(0, 0)", x.go(0, 0), 0);
        Check.due("axis(0, 6)", x.axis(0, 6), steps);
        Check.axisIs(x, 0, 1, 0, 0, -1, 1);
    }

    @Edge("(A place at which it believes to be is reached without a step.)")
    static void going_aPlaceAtWhichItIsButDoesNotBelieveToBeNeedsSteps() {
        ArmTolls x = Arms.slipped();
        Check.due("go(0, 1), is at 1 and believes 0", x.go(0, 1), 1);
        Check.axisIs(x, 0, 2, 1, 0, 1);
    }

    // ---- promise 6

    @Edge("Lets an axis go to a place.")
    static void promise6_theOtherAxesStay() {
        ArmTolls x = new ArmTolls();
        x.go(1, 3);
        int[] places = {0, 3, 0, 0};
        for (int axis = 0; axis <= 3; axis++) {
            Check.due("axis(" + axis + ", 0)", x.axis(axis, 0), places[axis]);
        }
    }

    @Edge("Undoable.")
    static void promise6_undoBringsAWayBackThatCameToAnEnd() {
        Arms.undoBringsBack(Check.armWithPurse(3), "go(0, 10)", x -> x.go(0, 10));
    }

    @Edge("Undoable.")
    static void promise6_aWayWithoutAStepIsUndoableToo() {
        Arms.undoBringsBack(new ArmTolls(), "go(0, 0)", x -> x.go(0, 0));
    }

    @Edge("axis: its number")
    static void promise6_theFirstAndTheLastAxisGo() {
        ArmTolls x = new ArmTolls();
        x.go(0, 2);
        x.go(3, 4);
        Check.axisIs(x, 0, 2, 2);
        Check.axisIs(x, 3, 4, 4);
    }

    @Edge("place: 0 to 23")
    static void promise6_thePlaces0And23AreThere() {
        ArmTolls x = new ArmTolls();
        Check.due("go(0, 23)", x.go(0, 23), 1);
        Check.axisIs(x, 0, 23, 23);
        Check.due("go(0, 0)", x.go(0, 0), 1);
        Check.axisIs(x, 0, 0, 0);
    }

    @Edge("Returns the tolls that were paid.")
    static void promise6_theAnswerIsWhatThePurseHasLess() {
        ArmTolls x = Arms.slipped();
        x.load(0, 2);
        int purse = x.count(0);
        Check.due("go(0, 4)", x.go(0, 4), 4 * 3);
        Check.due("count(0)", x.count(0), purse - 12);
    }

    @Edge("Returns the tolls that were paid.")
    static void promise6_theAnswerIs0WithoutAStep() {
        Check.due("go(0, 0)", new ArmTolls().go(0, 0), 0);
    }

    @Edge("Returns the tolls that were paid.")
    static void promise6_theAnswerIsWhatCouldBePaidWhereThePurseWasTooSmall() {
        ArmTolls x = Check.armWithPurse(7);
        x.load(0, 1);
        Check.due("go(0, 5) with 7, by tolls of 2", x.go(0, 5), 6);
    }

    @Edge("Throws IndexOutOfBoundsException if there is no such axis")
    static void promise6_noSuchAxisIsRefused() {
        Arms.refusesOutside(0, 3, "go(n, 1)", Check.INDEX, (x, n) -> x.go(n, 1));
    }

    @Edge("Throws IllegalArgumentException if place is out of range")
    static void promise6_aPlaceBelow0IsRefused() {
        Check.refusesEach(new ArmTolls(), "go(0, n)", Check.ARGUMENT, Arms.below(0), (x, n) -> x.go(0, n));
    }

    @Edge("Throws IllegalArgumentException if place is out of range")
    static void promise6_aPlaceAbove23IsRefused() {
        Check.refusesEach(new ArmTolls(), "go(3, n)", Check.ARGUMENT, Arms.above(23), (x, n) -> x.go(3, n));
    }

    @Edge("Throws IllegalStateException if the first step, if one is needed, cannot be made")
    static void promise6_anEmptyPurseIsRefusedForAnotherPlace() {
        ArmTolls x = Check.armWithPurse(0);
        Check.refuses(x, "go(0, 1) with 0", Check.STATE, y -> y.go(0, 1));
        Check.refuses(x, "go(0, 23) with 0", Check.STATE, y -> y.go(0, 23));
    }

    @Edge("Throws IllegalStateException if the first step, if one is needed, cannot be made")
    static void promise6_anEmptyPurseIsTakenWhereNoStepIsNeeded() {
        Check.due("go(0, 0) with 0", Check.armWithPurse(0).go(0, 0), 0);
    }

    @Edge("Throws IllegalStateException if the first step, if one is needed, cannot be made")
    static void promise6_theFirstStepIsByThePlaceAtWhichItIs() {
        ArmTolls x = Arms.worn(1, 40);
        x.step(0, 2);
        x.step(0, -1);
        x.step(0, -1);
        Check.axisIs(x, 0, 1, 0, 0, -1);
        Check.spentTo(4, x);
        Check.due("cost(0, 1, true)", x.cost(0, 1, true), 1);
        Check.refuses(x, "go(0, 1) with 4 of 5 for the step by the tooth 1", Check.STATE, y -> y.go(0, 1));
        x.earn(1);
        Check.due("go(0, 1) with 5 of 5", x.go(0, 1), 5);
    }

    // ---- promise 7

    @Edge("Homes an axis.")
    static void promise7_theOtherAxesStay() {
        ArmTolls x = new ArmTolls();
        x.step(0, 2);
        x.step(1, 2);
        x.home(1);
        Check.axisIs(x, 0, 2, 2, 0, 1);
        Check.axisIs(x, 1, 0, 0, 0, 0);
    }

    @Edge("Undoable.")
    static void promise7_homingWithoutAStepIsUndoableToo() {
        Arms.undoBringsBack(new ArmTolls(), "home(0)", x -> x.home(0));
    }

    @Edge("Undoable.")
    static void promise7_homingThatDoesNotHomeIsUndoableToo() {
        ArmTolls x = Check.armWithPurse(6);
        x.step(0, 5);
        Arms.undoBringsBack(x, "home(0) with 1", y -> y.home(0));
        x.step(0, 1);
        Arms.undoBringsBack(x, "home(0) with 0", y -> y.home(0));
    }

    @Edge("axis: its number")
    static void promise7_theFirstAndTheLastAxisAreHomed() {
        ArmTolls x = new ArmTolls();
        x.step(0, 2);
        x.step(3, 3);
        Check.due("home(0)", x.home(0), 2);
        Check.due("home(3)", x.home(3), 3);
    }

    @Edge("Returns how many steps were made;")
    static void promise7_theAnswerIs0AtThePlace0And23At23() {
        ArmTolls x = new ArmTolls();
        Check.due("home(0) at 0", x.home(0), 0);
        x.step(0, -1);
        Check.due("home(0) at 23", x.home(0), 23);
    }

    @Edge("NONE if it is not homed then.")
    static void promise7_theAnswerIsNoneIfThePurseEndsAheadOfThePlace0() {
        ArmTolls x = Check.armWithPurse(9);
        x.step(0, 5);
        Check.due("home(0) with 4 of 5", x.home(0), ArmTolls.NONE);
        Check.axisIs(x, 0, 1, 1);
    }

    @Edge("NONE if it is not homed then.")
    static void promise7_theAnswerIsNoneIfNoStepCanBeMade() {
        ArmTolls x = Check.armWithPurse(5);
        x.step(0, 5);
        Check.due("home(0) with 0", x.home(0), ArmTolls.NONE);
        Check.axisIs(x, 0, 5, 5, 0, 1, 0, 0, 5);
    }

    @Edge("Throws IndexOutOfBoundsException if there is no such axis")
    static void promise7_noSuchAxisIsRefused() {
        Arms.refusesOutside(0, 3, "home(n)", Check.INDEX, (x, n) -> x.home(n));
    }
}
