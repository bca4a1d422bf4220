/** The edges of promises 19 to 25: toll, slips, cost, ifHomed, reach, couldBe, worst. */
public final class WhatWouldBeEdgesTest {
    private static final int ALL_PLACES = (1 << 24) - 1;
    private static final String REACH = "Returns how many steps in this way could be made one after the other, 0 to 100, "
        + "if nothing else was done (wear, grease and purse becoming what they do).";
    private static final String COULD_BE = "Returns the places from which the place that it believes is at most as many steps "
        + "away, up or down, as its slack, as a bit mask.";
    private static final String WORST = "Returns the tooth without whose wear the lesser one of the costs of both ways to the "
        + "place would be least, of several the lowest number;";
    private static final String NONE = "NONE if it would not be less without the wear of any tooth.";

    public static void main(String[] args) {
        Edges.run(WhatWouldBeEdgesTest.class);
    }

    private static void changesNothing(ArmTolls x, String call, Check.Call run) {
        long before = x.digest();
        String all = Arms.seen(x);
        long answer = run.answer(x);
        Check.due(call + " once more", run.answer(x), answer);
        Check.dueText("all after " + call, Arms.seen(x), all);
        Check.due("digest() after " + call, x.digest(), before);
    }

    // ---- promise 19

    @Edge("Returns the toll of a step.")
    static void promise19_nothingIsChanged() {
        changesNothing(Arms.slipped(), "toll(0, true)", x -> x.toll(0, true));
    }

    @Edge("axis: its number")
    static void promise19_theFirstAndTheLastAxisAnswer() {
        ArmTolls x = new ArmTolls();
        x.load(0, 1);
        x.load(3, 4);
        Check.due("toll(0, true)", x.toll(0, true), 2);
        Check.due("toll(3, true)", x.toll(3, true), 5);
    }

    @Edge("isUp: whether it goes up")
    static void promise19_upAndDownFromThePlace0AreTheTeeth0And23() {
        ArmTolls x = Arms.wornToo(Arms.worn(0, 30), 23, 10);
        Check.due("toll(0, true)", x.toll(0, true), 4);
        Check.due("toll(0, false)", x.toll(0, false), 2);
    }

    @Edge("isUp: whether it goes up")
    static void promise19_upAndDownFromThePlace23AreTheTeeth23And22() {
        ArmTolls x = Arms.wornToo(Arms.worn(22, 30), 23, 10);
        x.step(0, 23);
        Check.due("toll(0, true)", x.toll(0, true), 2);
        Check.due("toll(0, false)", x.toll(0, false), 4);
    }

    @Edge("Returns the toll that the next step would have, from the place at which the axis is")
    static void promise19_itIsFromThePlaceAtWhichItIsNotTheBelievedOne() {
        ArmTolls x = Arms.slipped();
        Check.due("toll(0, true) by the tooth 1", x.toll(0, true), 1);
        Check.due("toll(0, false) by the tooth 0", x.toll(0, false), 5);
    }

    @Edge("Returns the toll that the next step would have,")
    static void promise19_theLeastTollIs1AndTheGreatestOne105() {
        ArmTolls x = Arms.worn(0, 98);
        x.set(0, 1);
        x.step(0, 1);
        x.set(1, 1);
        x.load(0, 5);
        Check.due("toll(0, false)", x.toll(0, false), 105);
        x.load(0, 0);
        Check.due("toll(0, true)", x.toll(0, true), 1);
        x.grease(0);
        Check.due("toll(0, true), greased", x.toll(0, true), 1);
        Check.due("toll(0, false), greased", x.toll(0, false), 50);
    }

    @Edge("(whether the purse has so much does not matter).")
    static void promise19_thePurseDoesNotMatter() {
        ArmTolls x = Check.armWithPurse(0);
        x.load(0, 5);
        Check.due("toll(0, true) with 0", x.toll(0, true), 6);
    }

    @Edge("Throws IndexOutOfBoundsException if there is no such axis")
    static void promise19_noSuchAxisIsRefused() {
        Arms.refusesOutside(0, 3, "toll(n, true)", Check.INDEX, (x, n) -> x.toll(n, true));
        Arms.refusesOutside(0, 3, "toll(n, false)", Check.INDEX, (x, n) -> x.toll(n, false));
    }

    // ---- promise 20

    @Edge("Tells whether a step would slip.")
    static void promise20_nothingIsChanged() {
        changesNothing(Arms.slipped(), "slips(0, true)", x -> x.slips(0, true));
    }

    @Edge("axis: its number")
    static void promise20_theFirstAndTheLastAxisAnswer() {
        ArmTolls x = new ArmTolls();
        x.step(0, 1);
        x.step(3, -1);
        Check.due("slips(0, false)", x.slips(0, false), 1);
        Check.due("slips(3, true)", x.slips(3, true), 1);
    }

    @Edge("isUp: whether it goes up")
    static void promise20_onlyTheOtherWayIsATurn() {
        ArmTolls x = new ArmTolls();
        x.step(0, 1);
        Check.due("slips(0, true) after up", x.slips(0, true), 0);
        Check.due("slips(0, false) after up", x.slips(0, false), 1);
        x.step(0, -1);
        Check.due("slips(0, true) after down", x.slips(0, true), 1);
        Check.due("slips(0, false) after down", x.slips(0, false), 0);
    }

    @Edge("Returns 0 if it would be no turn;")
    static void promise20_theFirstStepIsNoTurnHoweverWornTheToothIs() {
        ArmTolls x = Arms.worn(0, 98);
        Check.due("slips(0, true)", x.slips(0, true), 0);
        Check.due("slips(0, false)", x.slips(0, false), 0);
        x.step(0, 24);
        Check.due("slips(0, true) in the same way", x.slips(0, true), 0);
    }

    @Edge("1 if it would be a turn that does not slip;")
    static void promise20_aWearOf1LessThanSetting2DoesNotSlip() {
        ArmTolls x = Arms.worn(0, 39);
        x.step(0, 1);
        Check.due("slips(0, false) with 39 of 40", x.slips(0, false), 1);
        x.set(0, 20);
        Check.due("slips(0, false) with 39 of 40, which this step would wear", x.slips(0, false), 1);
    }

    @Edge("2 if it would slip.")
    static void promise20_aWearOfSetting2Slips() {
        ArmTolls x = Arms.worn(0, 40);
        x.step(0, 1);
        Check.due("slips(0, false) with 40 of 40", x.slips(0, false), 2);
        ArmTolls y = Arms.worn(23, 40);
        y.step(0, -1);
        Check.due("slips(0, true) from 23", y.slips(0, true), 2);
    }

    @Edge("2 if it would slip.")
    static void promise20_theToothIsOfThePlaceAtWhichItIs() {
        ArmTolls x = Arms.wornToo(Arms.worn(0, 40), 1, 40);
        x.step(0, 1);
        x.step(0, -1);
        x.set(2, 41);
        x.set(0, 1);
        x.step(0, 24);
        Check.axisIs(x, 0, 1, 0, 0, 1);
        Check.due("slips(0, false) by the tooth 0 with 41", x.slips(0, false), 2);
        x.mend(0, 0);
        Check.due("slips(0, false) by the tooth 0 with 0", x.slips(0, false), 1);
    }

    @Edge("Throws IndexOutOfBoundsException if there is no such axis")
    static void promise20_noSuchAxisIsRefused() {
        Arms.refusesOutside(0, 3, "slips(n, true)", Check.INDEX, (x, n) -> x.slips(n, true));
        Arms.refusesOutside(0, 3, "slips(n, false)", Check.INDEX, (x, n) -> x.slips(n, false));
    }

    // ---- promise 21

    @Edge("Returns the cost of a way to a place.")
    static void promise21_nothingIsChanged() {
        ArmTolls x = Arms.slipped();
        x.grease(0);
        changesNothing(x, "cost(0, 12, true)", y -> y.cost(0, 12, true));
    }

    @Edge("axis: its number")
    static void promise21_theFirstAndTheLastAxisAnswer() {
        ArmTolls x = new ArmTolls();
        x.load(0, 1);
        x.load(3, 4);
        Check.due("cost(0, 2, true)", x.cost(0, 2, true), 4);
        Check.due("cost(3, 2, true)", x.cost(3, 2, true), 10);
    }

    @Edge("place: 0 to 23")
    static void promise21_thePlaces0And23Answer() {
        ArmTolls x = new ArmTolls();
        x.step(0, 5);
        Check.due("cost(0, 0, true)", x.cost(0, 0, true), 19);
        Check.due("cost(0, 0, false)", x.cost(0, 0, false), 5);
        Check.due("cost(0, 23, true)", x.cost(0, 23, true), 18);
        Check.due("cost(0, 23, false)", x.cost(0, 23, false), 6);
    }

    @Edge("isUp: whether it goes up")
    static void promise21_bothWaysTogetherAreTheRing() {
        ArmTolls x = new ArmTolls();
        for (int place = 1; place <= 23; place++) {
            Check.due("cost(0, " + place + ", true)", x.cost(0, place, true), place);
            Check.due("cost(0, " + place + ", false)", x.cost(0, place, false), 24 - place);
        }
    }

    @Edge("Returns the cost, as told for going;")
    static void promise21_itIsFromTheBelievedPlaceWithTheGreaseAsItIs() {
        ArmTolls x = Arms.slipped();
        x.load(0, 2);
        x.set(4, 1);
        x.grease(0);
        Check.due("cost(0, 2, true): 7 greased and 3", x.cost(0, 2, true), 4 + 3);
        Check.due("cost(0, 22, false): 3 greased and 3", x.cost(0, 22, false), 2 + 3);
    }

    @Edge("Returns the cost, as told for going;")
    static void promise21_theWayMayBeDearerThanThePurse() {
        Check.due("cost(0, 23, true) with 0", Check.armWithPurse(0).cost(0, 23, true), 23);
    }

    @Edge("0 if it believes to be there.")
    static void promise21_aBelievedPlaceCosts0BothWays() {
        ArmTolls x = Arms.slipped();
        Check.due("cost(0, 0, true)", x.cost(0, 0, true), 0);
        Check.due("cost(0, 0, false)", x.cost(0, 0, false), 0);
        Check.due("cost(0, 1, true), where it is", x.cost(0, 1, true), 5);
    }

    @Edge("Throws IndexOutOfBoundsException if there is no such axis")
    static void promise21_noSuchAxisIsRefused() {
        Arms.refusesOutside(0, 3, "cost(n, 0, true)", Check.INDEX, (x, n) -> x.cost(n, 0, true));
        Arms.refusesOutside(0, 3, "cost(n, 0, false)", Check.INDEX, (x, n) -> x.cost(n, 0, false));
    }

    @Edge("Throws IllegalArgumentException if place is out of range")
    static void promise21_aPlaceBelow0IsRefused() {
        Check.refusesEach(new ArmTolls(), "cost(0, n, false)", Check.ARGUMENT, Arms.below(0), (x, n) -> x.cost(0, n, false));
    }

    @Edge("Throws IllegalArgumentException if place is out of range")
    static void promise21_aPlaceAbove23IsRefused() {
        Check.refusesEach(new ArmTolls(), "cost(0, n, true)", Check.ARGUMENT, Arms.above(23), (x, n) -> x.cost(0, n, true));
    }

    // ---- promise 22

    private static void homingWouldBe(ArmTolls x, int steps, int tolls, int homed) {
        Check.due("ifHomed(0, 0)", x.ifHomed(0, 0), steps);
        Check.due("ifHomed(0, 1)", x.ifHomed(0, 1), tolls);
        Check.due("ifHomed(0, 2)", x.ifHomed(0, 2), homed);
        int tollsBefore = x.count(2);
        Check.due("home(0)", x.home(0), homed == 1 ? steps : ArmTolls.NONE);
        Check.due("count(2) more", x.count(2) - tollsBefore, tolls);
    }

    @Edge("Tells what homing would do.")
    static void promise22_nothingIsChanged() {
        ArmTolls x = Arms.slipped();
        x.grease(0);
        changesNothing(x, "ifHomed(0, 1)", y -> y.ifHomed(0, 1));
    }

    @Edge("axis: its number")
    static void promise22_theFirstAndTheLastAxisAnswer() {
        ArmTolls x = new ArmTolls();
        x.step(0, 1);
        x.step(3, 4);
        Check.due("ifHomed(0, 0)", x.ifHomed(0, 0), 1);
        Check.due("ifHomed(3, 0)", x.ifHomed(3, 0), 4);
    }

    @Edge("what: 0: how many steps would be made;")
    static void promise22_0Is0AtThePlace0And24ByASlipAt23() {
        homingWouldBe(new ArmTolls(), 0, 0, 1);
        ArmTolls x = new ArmTolls();
        x.step(0, -1);
        homingWouldBe(x, 23, 23, 1);
        ArmTolls y = Arms.worn(22, 40);
        y.step(0, 23);
        homingWouldBe(y, 24, 5 + 5 + 22, 1);
    }

    @Edge("1: the tolls that would be paid;")
    static void promise22_1HasTheGreaseAndTheWearThatItWouldMake() {
        ArmTolls x = new ArmTolls();
        x.load(0, 3);
        x.step(0, 3);
        x.set(4, 2);
        x.grease(0);
        homingWouldBe(x, 3, 2 + 2 + 4, 1);
        ArmTolls y = Arms.worn(22, 38);
        y.set(2, 38);
        y.step(0, 23);
        y.set(0, 2);
        homingWouldBe(y, 24, 4 + 5 + 22, 1);
    }

    @Edge("2: 1 if it would be homed, otherwise 0")
    static void promise22_2Is1WithJustTheTollsAnd0With1Less() {
        ArmTolls x = Check.armWithPurse(10);
        x.step(0, 5);
        homingWouldBe(x, 5, 5, 1);
        ArmTolls y = Check.armWithPurse(9);
        y.step(0, 5);
        homingWouldBe(y, 4, 4, 0);
        homingWouldBe(y, 0, 0, 0);
    }

    @Edge("2: 1 if it would be homed, otherwise 0")
    static void promise22_2Is1AtThePlace0WithAnEmptyPurse() {
        homingWouldBe(Check.armWithPurse(0), 0, 0, 1);
    }

    @Edge("Returns the number.")
    static void promise22_itIsFromThePlaceAtWhichItIs() {
        ArmTolls x = Arms.slipped();
        homingWouldBe(x, 1, 5, 1);
        ArmTolls y = Arms.slipped();
        y.step(0, -1);
        homingWouldBe(y, 0, 0, 1);
    }

    @Edge("Throws IndexOutOfBoundsException if there is no such axis")
    static void promise22_noSuchAxisIsRefused() {
        Arms.refusesOutside(0, 3, "ifHomed(n, 0)", Check.INDEX, (x, n) -> x.ifHomed(n, 0));
        Arms.refusesOutside(0, 3, "ifHomed(n, 2)", Check.INDEX, (x, n) -> x.ifHomed(n, 2));
    }

    @Edge("Throws IllegalArgumentException if what is not 0 to 2")
    static void promise22_whatBelow0IsRefused() {
        Check.refusesEach(new ArmTolls(), "ifHomed(0, n)", Check.ARGUMENT, Arms.below(0), (x, n) -> x.ifHomed(0, n));
    }

    @Edge("Throws IllegalArgumentException if what is not 0 to 2")
    static void promise22_whatAbove2IsRefused() {
        Check.refusesEach(new ArmTolls(), "ifHomed(3, n)", Check.ARGUMENT, Arms.above(2), (x, n) -> x.ifHomed(3, n));
    }

    // ---- promise 23

    /** A reach that is tried out afterwards, by steps of 1. */
    private static void reachIs(ArmTolls x, boolean isUp, int steps) {
        Check.due("reach(0, " + isUp + ")", x.reach(0, isUp), steps);
        int made = 0;
        while (made < 100 && x.count(0) >= x.toll(0, isUp)) {
            x.step(0, isUp ? 1 : -1);
            made++;
        }
        Check.due("steps made one after the other", made, steps);
    }

    @Edge("Tells how far an axis could go.")
    static void promise23_nothingIsChanged() {
        ArmTolls x = Arms.slipped();
        x.grease(0);
        changesNothing(x, "reach(0, true)", y -> y.reach(0, true));
        changesNothing(x, "reach(0, false)", y -> y.reach(0, false));
    }

    @Edge("axis: its number")
    static void promise23_theFirstAndTheLastAxisAnswer() {
        ArmTolls x = Check.armWithPurse(24);
        x.set(4, 0);
        x.set(5, 0);
        x.grease(3);
        x.load(0, 1);
        x.load(3, 5);
        Check.due("reach(0, true)", x.reach(0, true), 12);
        Check.due("reach(3, true)", x.reach(3, true), 4);
    }

    @Edge("isUp: whether it goes up")
    static void promise23_upAndDownMayBeUnlike() {
        ArmTolls x = Check.spentTo(4, Arms.worn(0, 40));
        Check.due("reach(0, true) with 4 of 5 for the tooth 0", x.reach(0, true), 0);
        Check.due("reach(0, false)", x.reach(0, false), 4);
    }

    @Edge(REACH)
    static void promise23_itIs0WithAnEmptyPurseOr1LessThanTheToll() {
        reachIs(Check.armWithPurse(0), true, 0);
        ArmTolls x = Check.armWithPurse(5);
        x.load(0, 5);
        reachIs(x, true, 0);
        reachIs(x, false, 0);
    }

    @Edge(REACH)
    static void promise23_itIs1WithJustTheToll() {
        ArmTolls x = Check.armWithPurse(6);
        x.load(0, 5);
        reachIs(x, false, 1);
    }

    @Edge(REACH)
    static void promise23_itIs100AtMost() {
        int[] purses = {99, 100, 101};
        int[] steps = {99, 100, 100};
        for (int i = 0; i < purses.length; i++) {
            ArmTolls x = Check.armWithPurse(purses[i]);
            x.set(0, 0);
            reachIs(x, true, steps[i]);
        }
        Check.due("reach(0, false) with 100000", Arms.rich(100000).reach(0, false), 100);
    }

    @Edge(REACH)
    static void promise23_theWearOfTheFirstRoundCountsInTheSecondOne() {
        ArmTolls x = Check.armWithPurse(24 + 20);
        x.set(0, 20);
        x.set(1, 1);
        reachIs(x, true, 24);
        ArmTolls y = Check.armWithPurse(24 + 21);
        y.set(0, 20);
        y.set(1, 1);
        reachIs(y, false, 25);
    }

    @Edge(REACH)
    static void promise23_theGreaseRunsOut() {
        int[] purses = {7, 8};
        int[] steps = {2, 3};
        for (int i = 0; i < purses.length; i++) {
            ArmTolls x = new ArmTolls();
            x.load(0, 3);
            x.set(4, 2);
            x.grease(0);
            reachIs(Check.spentTo(purses[i], x), true, steps[i]);
        }
    }

    @Edge(REACH)
    static void promise23_aSlipGoesByTheSameToothTwice() {
        ArmTolls x = Arms.worn(0, 40);
        x.step(0, 1);
        reachIs(Check.spentTo(9, x), false, 1);
        ArmTolls y = Arms.worn(0, 40);
        y.step(0, 1);
        reachIs(Check.spentTo(11, y), false, 3);
    }

    @Edge("Throws IndexOutOfBoundsException if there is no such axis")
    static void promise23_noSuchAxisIsRefused() {
        Arms.refusesOutside(0, 3, "reach(n, true)", Check.INDEX, (x, n) -> x.reach(n, true));
        Arms.refusesOutside(0, 3, "reach(n, false)", Check.INDEX, (x, n) -> x.reach(n, false));
    }

    // ---- promise 24

    /** The axis 0 made so many turns between the places 0 and 1; an odd number ends at 0. */
    private static ArmTolls turned(int turns) {
        ArmTolls x = Arms.unwearing();
        x.step(0, 1);
        for (int turn = 1; turn <= turns; turn++) {
            x.step(0, turn % 2 == 1 ? -1 : 1);
        }
        return x;
    }

    @Edge("Tells where an axis could be.")
    static void promise24_nothingIsChanged() {
        changesNothing(Arms.slipped(), "couldBe(0)", x -> x.couldBe(0));
    }

    @Edge("axis: its number")
    static void promise24_theFirstAndTheLastAxisAnswer() {
        ArmTolls x = new ArmTolls();
        x.step(0, 4);
        x.step(3, 7);
        Check.due("couldBe(0)", x.couldBe(0), 1 << 4);
        Check.due("couldBe(3)", x.couldBe(3), 1 << 7);
    }

    @Edge(COULD_BE)
    static void promise24_withoutSlackItIsTheBelievedPlaceAlone() {
        ArmTolls x = new ArmTolls();
        Check.due("couldBe(0) at 0", x.couldBe(0), 1);
        x.step(0, 23);
        Check.due("couldBe(0) at 23", x.couldBe(0), 1 << 23);
    }

    @Edge(COULD_BE)
    static void promise24_aroundThePlace0AreThePlaces23And1() {
        Check.due("couldBe(0) at 0 with a slack of 1", turned(1).couldBe(0), 1 << 23 | 1 | 1 << 1);
        Check.due("couldBe(0) at 1 with a slack of 2", turned(2).couldBe(0), 1 << 23 | 1 | 1 << 1 | 1 << 2 | 1 << 3);
    }

    @Edge(COULD_BE)
    static void promise24_aroundThePlace23AreThePlaces22And0() {
        ArmTolls x = new ArmTolls();
        x.step(0, -2);
        x.step(0, 1);
        Check.due("couldBe(0) at 23 with a slack of 1", x.couldBe(0), 1 << 22 | 1 << 23 | 1);
    }

    @Edge(COULD_BE)
    static void promise24_aSlackOf11LeavesThePlaceOppositeOut() {
        Check.due("couldBe(0) at 0 with a slack of 11", turned(11).couldBe(0), ALL_PLACES - (1 << 12));
    }

    @Edge(COULD_BE)
    static void promise24_aSlackOf12IsAllPlaces() {
        Check.due("couldBe(0) with a slack of 12", turned(12).couldBe(0), ALL_PLACES);
        Check.due("couldBe(0) with a slack of 12", turned(13).couldBe(0), ALL_PLACES);
    }

    @Edge(COULD_BE)
    static void promise24_itIsAroundTheBelievedPlaceNotTheOneAtWhichItIs() {
        ArmTolls x = Arms.slipped();
        Check.due("couldBe(0) at 1, believing 0, with a slack of 1", x.couldBe(0), 1 << 23 | 1 | 1 << 1);
        x.home(0);
        Check.due("couldBe(0) after homing", x.couldBe(0), 1);
    }

    @Edge("Throws IndexOutOfBoundsException if there is no such axis")
    static void promise24_noSuchAxisIsRefused() {
        Arms.refusesOutside(0, 3, "couldBe(n)", Check.INDEX, (x, n) -> x.couldBe(n));
    }

    // ---- promise 25

    @Edge("Finds the tooth to mend.")
    static void promise25_nothingIsChanged() {
        ArmTolls x = Arms.slipped();
        x.grease(0);
        changesNothing(x, "worst(0, 12)", y -> y.worst(0, 12));
    }

    @Edge("axis: its number")
    static void promise25_theFirstAndTheLastAxisAnswer() {
        ArmTolls x = new ArmTolls();
        x.set(0, 20);
        x.step(0, 1);
        x.step(0, -1);
        x.step(3, 2);
        x.mend(3, 0);
        x.step(3, -1);
        x.home(0);
        x.set(2, 99);
        x.home(3);
        x.mend(3, 0);
        Check.due("worst(0, 3)", x.worst(0, 3), 0);
        Check.due("worst(3, 3)", x.worst(3, 3), 1);
    }

    @Edge("place: 0 to 23")
    static void promise25_thePlaces0And23Answer() {
        ArmTolls x = Arms.worn(23, 20);
        Check.due("worst(0, 23) from 0", x.worst(0, 23), 23);
        x.step(0, -1);
        Check.due("worst(0, 0) from 23", x.worst(0, 0), 23);
    }

    @Edge(WORST)
    static void promise25_theTeeth0And23MayBeIt() {
        Check.due("worst(0, 1)", Arms.worn(0, 10).worst(0, 1), 0);
        Check.due("worst(0, 23)", Arms.worn(23, 10).worst(0, 23), 23);
    }

    @Edge(WORST)
    static void promise25_aWearOf1MayBeIt() {
        ArmTolls x = Arms.worn(5, 1);
        x.set(1, 1);
        Check.due("worst(0, 7)", x.worst(0, 7), 5);
        Check.due("worst(0, 5), ahead of the tooth 5", x.worst(0, 5), ArmTolls.NONE);
    }

    @Edge("of several the lowest number;")
    static void promise25_ofTwoOfTheSameWayItIsTheLowestNumber() {
        ArmTolls x = Arms.wornToo(Arms.worn(2, 20), 1, 20);
        Check.due("worst(0, 4)", x.worst(0, 4), 1);
    }

    @Edge("of several the lowest number;")
    static void promise25_ofTwoOfBothWaysItIsTheLowestNumber() {
        ArmTolls x = Arms.wornToo(Arms.worn(23, 10), 11, 10);
        Check.due("worst(0, 12)", x.worst(0, 12), 11);
        Check.due("worst(0, 11), the way up alone costs least, without wear", x.worst(0, 11), ArmTolls.NONE);
    }

    @Edge("of several the lowest number;")
    static void promise25_aHigherNumberThatSparesMoreIsIt() {
        ArmTolls x = Arms.wornToo(Arms.worn(1, 20), 2, 30);
        Check.due("worst(0, 4)", x.worst(0, 4), 2);
        ArmTolls y = Arms.wornToo(Arms.worn(1, 20), 2, 29);
        Check.due("worst(0, 4), of 20 and 29, which spare as much", y.worst(0, 4), 1);
    }

    @Edge(WORST)
    static void promise25_theDearerWayMayBecomeTheLesserOne() {
        ArmTolls x = Arms.worn(1, 40);
        Check.due("worst(0, 11): 15 up, 13 down, 11 up without the tooth 1", x.worst(0, 11), 1);
    }

    @Edge(WORST)
    static void promise25_itIsFromTheBelievedPlace() {
        ArmTolls x = Arms.slipped();
        Check.due("worst(0, 1), believing 0", x.worst(0, 1), 0);
    }

    @Edge(WORST)
    static void promise25_theGreasedStepsCount() {
        ArmTolls x = Arms.wornToo(Arms.worn(0, 30), 1, 20);
        Check.due("worst(0, 2)", x.worst(0, 2), 0);
        x.set(4, 1);
        x.grease(0);
        Check.due("worst(0, 2): 2 and 3 with a greased step, 1 and 3 or 2 and 1 without", x.worst(0, 2), 1);
    }

    @Edge(NONE)
    static void promise25_withoutWearItIsNone() {
        Check.due("worst(0, 12)", new ArmTolls().worst(0, 12), ArmTolls.NONE);
    }

    @Edge(NONE)
    static void promise25_atTheBelievedPlaceItIsNone() {
        Check.due("worst(0, 0)", Arms.worn(0, 40).worst(0, 0), ArmTolls.NONE);
        Check.due("worst(0, 0), believing 0, at 1", Arms.slipped().worst(0, 0), ArmTolls.NONE);
    }

    @Edge(NONE)
    static void promise25_wearThatTakesNoTollIsNone() {
        Check.due("worst(0, 1) with 9 of 10", Arms.worn(0, 9).worst(0, 1), ArmTolls.NONE);
        Check.due("worst(0, 1) with 10 of 10", Arms.worn(0, 10).worst(0, 1), 0);
        ArmTolls x = Arms.worn(0, 10);
        x.grease(0);
        Check.due("worst(0, 1), half of 2 as of 1", x.worst(0, 1), ArmTolls.NONE);
    }

    @Edge(NONE)
    static void promise25_wearOfTheDearerWayThatStaysNoLessIsNone() {
        ArmTolls x = Arms.worn(1, 40);
        Check.due("worst(0, 12): 16 up, 12 down, 12 up without the tooth 1", x.worst(0, 12), ArmTolls.NONE);
    }

    @Edge("Throws IndexOutOfBoundsException if there is no such axis")
    static void promise25_noSuchAxisIsRefused() {
        Arms.refusesOutside(0, 3, "worst(n, 0)", Check.INDEX, (x, n) -> x.worst(n, 0));
        Arms.refusesOutside(0, 3, "worst(n, 23)", Check.INDEX, (x, n) -> x.worst(n, 23));
    }

    @Edge("Throws IllegalArgumentException if place is out of range")
    static void promise25_aPlaceBelow0IsRefused() {
        Check.refusesEach(new ArmTolls(), "worst(0, n)", Check.ARGUMENT, Arms.below(0), (x, n) -> x.worst(0, n));
    }

    @Edge("Throws IllegalArgumentException if place is out of range")
    static void promise25_aPlaceAbove23IsRefused() {
        Check.refusesEach(new ArmTolls(), "worst(3, n)", Check.ARGUMENT, Arms.above(23), (x, n) -> x.worst(3, n));
    }
}
