import java.util.Map;

/** The edges of "What it is", and of the terms "Axes" and "Settings". */
public final class AxesEdgesTest {
    public static void main(String[] args) {
        Edges.run(AxesEdgesTest.class);
    }

    @Edge("An object is used for at most 512 calls after it has been made")
    static void whatItIs_theCall512IsAnsweredAsPromised() {
        ArmTolls x = new ArmTolls();
        x.set(0, 0);
        for (int call = 2; call <= 510; call++) {
            x.step(0, 1);
        }
        Check.due("axis(0, 0), the call 511", x.axis(0, 0), 509 % 24);
        Check.due("count(0), the call 512", x.count(0), 1000 - 509);
    }

    @Edge("All numbers are integers; divisions are rounded down, unless something else is told.")
    static void terms_wearDividedBySetting1IsRoundedDown() {
        int[] wears = {1, 9, 10, 19, 20};
        int[] tolls = {1, 1, 2, 2, 3};
        for (int i = 0; i < wears.length; i++) {
            Check.due("toll(0, true) by a wear of " + wears[i], Arms.worn(0, wears[i]).toll(0, true), tolls[i]);
        }
    }

    @Edge("There are 4 axes, numbered 0 to 3.")
    static void axes_theAxes0To3AreThere() {
        for (Map.Entry<String, Check.OnNumber> call : Arms.OF_AN_AXIS.entrySet()) {
            long due = call.getValue().answer(new ArmTolls(), 0);
            for (int axis = 1; axis <= 3; axis++) {
                Check.due(call.getKey() + " with n = " + axis, call.getValue().answer(new ArmTolls(), axis), due);
            }
        }
    }

    @Edge("There are 4 axes, numbered 0 to 3.")
    static void axes_noAxisIsBelow0OrAbove3() {
        ArmTolls x = new ArmTolls();
        for (Map.Entry<String, Check.OnNumber> call : Arms.OF_AN_AXIS.entrySet()) {
            Check.refusesEach(x, call.getKey(), Check.INDEX, Arms.below(0), call.getValue());
            Check.refusesEach(x, call.getKey(), Check.INDEX, Arms.above(3), call.getValue());
        }
    }

    @Edge("There are 4 axes, numbered 0 to 3.")
    static void axes_eachAxisIsApartFromTheOthers() {
        ArmTolls x = new ArmTolls();
        for (int axis = 0; axis <= 3; axis++) {
            x.step(axis, axis + 1);
        }
        for (int axis = 0; axis <= 3; axis++) {
            Check.due("axis(" + axis + ", 0)", x.axis(axis, 0), axis + 1);
            Check.due("wear of the last tooth", x.wear(axis, axis), 3);
            Check.due("wear of the next tooth", x.wear(axis, axis + 1), 0);
        }
    }

    @Edge("Each has a ring of 24 teeth, numbered 0 to 23.")
    static void axes_24StepsUpWearEachToothOnce() {
        ArmTolls x = new ArmTolls();
        x.step(2, 24);
        for (int tooth = 0; tooth <= 23; tooth++) {
            Check.due("wear(2, " + tooth + ")", x.wear(2, tooth), 3);
        }
        Check.due("axis(2, 0)", x.axis(2, 0), 0);
    }

    @Edge("Each has a ring of 24 teeth, numbered 0 to 23.")
    static void axes_24StepsDownWearEachToothOnce() {
        ArmTolls x = new ArmTolls();
        x.step(1, -24);
        for (int tooth = 0; tooth <= 23; tooth++) {
            Check.due("wear(1, " + tooth + ")", x.wear(1, tooth), 3);
        }
        Check.due("axis(1, 0)", x.axis(1, 0), 0);
    }

    @Edge("An axis is at a place, 0 to 23, at first 0, and believes to be at a place, at first 0.")
    static void axes_placesAre0AtFirst() {
        for (int axis = 0; axis <= 3; axis++) {
            Check.axisIs(new ArmTolls(), axis, 0, 0);
        }
    }

    @Edge("An axis is at a place, 0 to 23, at first 0, and believes to be at a place, at first 0.")
    static void axes_theStepUpFrom23EndsAt0() {
        ArmTolls x = new ArmTolls();
        x.step(0, 23);
        Check.axisIs(x, 0, 23, 23);
        x.step(0, 1);
        Check.axisIs(x, 0, 0, 0);
    }

    @Edge("An axis is at a place, 0 to 23, at first 0, and believes to be at a place, at first 0.")
    static void axes_theStepDownFrom0EndsAt23() {
        ArmTolls x = new ArmTolls();
        x.step(3, -1);
        Check.axisIs(x, 3, 23, 23);
    }

    @Edge("(The tooth k is between the places k and k + 1, the tooth 23 between 23 and 0.)")
    static void axes_theTooth0IsBetween0And1() {
        ArmTolls x = new ArmTolls();
        x.step(0, 1);
        Check.due("wear(0, 0) after 0 to 1", x.wear(0, 0), 3);
        x.step(0, -1);
        Check.due("wear(0, 0) after 1 to 0", x.wear(0, 0), 6);
        Check.due("count(5)", x.count(5), 6);
    }

    @Edge("(The tooth k is between the places k and k + 1, the tooth 23 between 23 and 0.)")
    static void axes_theTooth22IsBetween22And23() {
        ArmTolls x = Arms.unwearing();
        x.step(0, 22);
        x.set(0, 5);
        x.step(0, 1);
        Check.due("wear(0, 22) after 22 to 23", x.wear(0, 22), 5);
        x.step(0, -1);
        Check.due("wear(0, 22) after 23 to 22", x.wear(0, 22), 10);
        Check.due("count(5)", x.count(5), 10);
    }

    @Edge("the tooth 23 between 23 and 0.)")
    static void axes_theTooth23IsBetween23And0() {
        ArmTolls x = new ArmTolls();
        x.step(0, -1);
        Check.due("wear(0, 23) after 0 to 23", x.wear(0, 23), 3);
        x.step(0, 1);
        Check.due("wear(0, 23) after 23 to 0", x.wear(0, 23), 6);
        Check.due("count(5)", x.count(5), 6);
    }

    @Edge("It has a load, 0 to 5, at first 0;")
    static void axes_theLoadIs0AtFirstAnd5AtMost() {
        ArmTolls x = new ArmTolls();
        Check.due("axis(0, 2) at first", x.axis(0, 2), 0);
        x.load(0, 5);
        Check.due("axis(0, 2)", x.axis(0, 2), 5);
        Check.refuses(x, "load(0, 6)", Check.ARGUMENT, y -> y.load(0, 6));
        Check.refuses(x, "load(0, -1)", Check.ARGUMENT, y -> y.load(0, -1));
    }

    @Edge("a way, in which its latest step went (1 up, -1 down, 0 none since the beginning or a homing), at first 0;")
    static void axes_theWayIs0SinceTheBeginning() {
        for (int axis = 0; axis <= 3; axis++) {
            Check.due("axis(" + axis + ", 3)", new ArmTolls().axis(axis, 3), 0);
        }
    }

    @Edge("a way, in which its latest step went (1 up, -1 down, 0 none since the beginning or a homing), at first 0;")
    static void axes_theWayIs1AfterUpAndMinus1AfterDown() {
        ArmTolls x = new ArmTolls();
        x.step(0, 1);
        Check.due("axis(0, 3) after a step up", x.axis(0, 3), 1);
        x.step(0, -1);
        Check.due("axis(0, 3) after a step down", x.axis(0, 3), -1);
        x.step(0, 2);
        Check.due("axis(0, 3) after two steps up", x.axis(0, 3), 1);
    }

    @Edge("a way, in which its latest step went (1 up, -1 down, 0 none since the beginning or a homing), at first 0;")
    static void axes_theWayIs0SinceAHoming() {
        ArmTolls x = new ArmTolls();
        x.step(0, 3);
        x.home(0);
        Check.due("axis(0, 3)", x.axis(0, 3), 0);
    }

    @Edge("a slack, at first 0;")
    static void axes_theSlackIs0AtFirst() {
        for (int axis = 0; axis <= 3; axis++) {
            Check.due("axis(" + axis + ", 4)", new ArmTolls().axis(axis, 4), 0);
        }
    }

    @Edge("and greased steps, at first 0.")
    static void axes_greasedStepsAre0AtFirst() {
        for (int axis = 0; axis <= 3; axis++) {
            Check.due("axis(" + axis + ", 5)", new ArmTolls().axis(axis, 5), 0);
        }
    }

    @Edge("A tooth has a wear, 0 to 99, at first 0.")
    static void axes_aToothHasNoWearAtFirst() {
        ArmTolls x = new ArmTolls();
        for (int tooth = 0; tooth < 96; tooth++) {
            Check.due("wear of the tooth " + tooth % 24 + " of " + tooth / 24, x.wear(tooth / 24, tooth % 24), 0);
        }
    }

    @Edge("A tooth has a wear, 0 to 99, at first 0.")
    static void axes_aToothHasAWearOf99AtMost() {
        ArmTolls x = Arms.worn(0, 98);
        x.set(0, 1);
        x.step(0, 1);
        Check.due("wear(0, 0)", x.wear(0, 0), 99);
        x.set(0, 20);
        x.step(0, 24);
        Check.due("wear(0, 0) after one more step", x.wear(0, 0), 99);
    }

    @Edge("The arm has a purse, at first 1000.")
    static void axes_thePurseIs1000AtFirst() {
        Check.due("count(0)", new ArmTolls().count(0), 1000);
    }

    private static void settingIs(int setting, int first, int least, int most) {
        ArmTolls x = new ArmTolls();
        Check.due("setting(" + setting + ") at first", x.setting(setting), first);
        x.set(setting, least);
        Check.due("setting(" + setting + ") at its least", x.setting(setting), least);
        x.set(setting, most);
        Check.due("setting(" + setting + ") at its most", x.setting(setting), most);
        Check.refusesEach(x, "set(" + setting + ", n)", Check.ARGUMENT, Arms.below(least), (y, n) -> y.set(setting, n));
        Check.refusesEach(x, "set(" + setting + ", n)", Check.ARGUMENT, Arms.above(most), (y, n) -> y.set(setting, n));
    }

    @Edge("0: wear by a step, 0 to 20, at first 3;")
    static void settings_wearByAStepIs0To20AndAtFirst3() {
        settingIs(0, 3, 0, 20);
        int[] wears = {0, 3, 20};
        for (int wear : wears) {
            ArmTolls x = new ArmTolls();
            x.set(0, wear);
            x.step(0, 1);
            Check.due("wear(0, 0) with " + wear, x.wear(0, 0), wear);
        }
    }

    @Edge("1: the wear for which a toll is greater by 1, 1 to 50, at first 10;")
    static void settings_wearForAGreaterTollIs1To50AndAtFirst10() {
        settingIs(1, 10, 1, 50);
        ArmTolls x = Arms.worn(0, 50);
        Check.due("toll(0, true) with 10", x.toll(0, true), 6);
        x.set(1, 1);
        Check.due("toll(0, true) with 1", x.toll(0, true), 51);
        x.set(1, 50);
        Check.due("toll(0, true) with 50", x.toll(0, true), 2);
    }

    @Edge("2: the wear that slips, 1 to 99, at first 40;")
    static void settings_theWearThatSlipsIs1To99AndAtFirst40() {
        settingIs(2, 40, 1, 99);
        ArmTolls x = Arms.worn(0, 98);
        Check.due("count(6) with 40", x.count(6), 1);
        x.set(2, 98);
        Check.due("count(6) with 98", x.count(6), 1);
        x.set(2, 99);
        Check.due("count(6) with 99", x.count(6), 0);
        x.set(2, 1);
        Check.due("count(6) with 1", x.count(6), 1);
    }

    @Edge("3: the cost of mending 1 of wear, 0 to 20, at first 1;")
    static void settings_theCostOfMendingIs0To20AndAtFirst1() {
        settingIs(3, 1, 0, 20);
        int[] costs = {0, 1, 20};
        for (int cost : costs) {
            ArmTolls x = Arms.worn(0, 7);
            x.set(3, cost);
            Check.due("mend(0, 0) with " + cost, x.mend(0, 0), 7 * cost);
        }
    }

    @Edge("4: steps by greasing, 0 to 100, at first 12;")
    static void settings_stepsByGreasingAre0To100AndAtFirst12() {
        settingIs(4, 12, 0, 100);
        int[] steps = {0, 12, 100};
        for (int greased : steps) {
            ArmTolls x = new ArmTolls();
            x.set(4, greased);
            x.grease(0);
            Check.due("axis(0, 5) with " + greased, x.axis(0, 5), greased);
        }
    }

    @Edge("5: the cost of greasing, 0 to 200, at first 15.")
    static void settings_theCostOfGreasingIs0To200AndAtFirst15() {
        settingIs(5, 15, 0, 200);
        int[] costs = {0, 15, 200};
        for (int cost : costs) {
            ArmTolls x = new ArmTolls();
            x.set(5, cost);
            Check.due("grease(0) with " + cost, x.grease(0), 1000 - cost);
        }
    }
}
