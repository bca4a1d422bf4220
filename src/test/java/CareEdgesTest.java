/** The edges of promises 8 and 9: grease, mend. */
public final class CareEdgesTest {
    public static void main(String[] args) {
        Edges.run(CareEdgesTest.class);
    }

    @Edge("Greases an axis: its greased steps are setting 4.")
    static void promise8_whatWasLeftOfTheGreaseIsNotAdded() {
        ArmTolls x = new ArmTolls();
        x.grease(0);
        x.step(0, 5);
        Check.due("axis(0, 5)", x.axis(0, 5), 7);
        x.grease(0);
        Check.due("axis(0, 5)", x.axis(0, 5), 12);
    }

    @Edge("Greases an axis: its greased steps are setting 4.")
    static void promise8_greasedStepsMayBecomeLessDownTo0() {
        ArmTolls x = new ArmTolls();
        x.grease(0);
        x.set(4, 0);
        x.grease(0);
        Check.due("axis(0, 5)", x.axis(0, 5), 0);
    }

    @Edge("Greases an axis: its greased steps are setting 4.")
    static void promise8_greasedStepsAre100AtMost() {
        ArmTolls x = new ArmTolls();
        x.set(4, 100);
        x.grease(0);
        Check.due("axis(0, 5)", x.axis(0, 5), 100);
        Check.due("axis(1, 5)", x.axis(1, 5), 0);
    }

    @Edge("Greases an axis: its greased steps are setting 4.")
    static void promise8_aSettingThatChangesLaterLeavesTheGreasedSteps() {
        ArmTolls x = new ArmTolls();
        x.grease(0);
        x.set(4, 3);
        Check.due("axis(0, 5)", x.axis(0, 5), 12);
    }

    @Edge("Undoable.")
    static void promise8_greasingForNothingIsUndoableToo() {
        ArmTolls x = new ArmTolls();
        x.set(4, 0);
        x.set(5, 0);
        Arms.undoBringsBack(x, "grease(0)", y -> y.grease(0));
        Arms.undoBringsBack(new ArmTolls(), "grease(3)", y -> y.grease(3));
    }

    @Edge("axis: its number")
    static void promise8_theFirstAndTheLastAxisAreGreased() {
        ArmTolls x = new ArmTolls();
        x.grease(0);
        x.grease(3);
        int[] greased = {12, 0, 0, 12};
        for (int axis = 0; axis <= 3; axis++) {
            Check.due("axis(" + axis + ", 5)", x.axis(axis, 5), greased[axis]);
        }
    }

    @Edge("Returns what is in the purse then.")
    static void promise8_theAnswerMayBe0() {
        Check.due("grease(0) with 15 of 15", Check.armWithPurse(15).grease(0), 0);
    }

    @Edge("Throws IndexOutOfBoundsException if there is no such axis")
    static void promise8_noSuchAxisIsRefused() {
        Arms.refusesOutside(0, 3, "grease(n)", Check.INDEX, (x, n) -> x.grease(n));
    }

    @Edge("Throws IllegalStateException if the purse has less than setting 5")
    static void promise8_aPurseWith1LessIsRefused() {
        Check.refuses(Check.armWithPurse(14), "grease(0) with 14 of 15", Check.STATE, x -> x.grease(0));
        ArmTolls y = Check.armWithPurse(199);
        y.set(5, 200);
        Check.refuses(y, "grease(0) with 199 of 200", Check.STATE, x -> x.grease(0));
        ArmTolls z = Check.armWithPurse(0);
        z.set(5, 1);
        Check.refuses(z, "grease(0) with 0 of 1", Check.STATE, x -> x.grease(0));
    }

    @Edge("Throws IllegalStateException if the purse has less than setting 5")
    static void promise8_aPurseWithJustSetting5IsEnough() {
        ArmTolls x = Check.armWithPurse(200);
        x.set(5, 200);
        Check.due("grease(0) with 200 of 200", x.grease(0), 0);
    }

    @Edge("Throws IllegalStateException if the purse has less than setting 5")
    static void promise8_anEmptyPurseIsEnoughFor0() {
        ArmTolls x = Check.armWithPurse(0);
        x.set(5, 0);
        Check.due("grease(0) with 0 of 0", x.grease(0), 0);
        Check.due("axis(0, 5)", x.axis(0, 5), 12);
    }

    @Edge("Mends a tooth: its wear is 0.")
    static void promise9_onlyThisToothIsMended() {
        ArmTolls x = new ArmTolls();
        x.step(1, 24);
        x.step(2, 24);
        x.mend(1, 5);
        for (int tooth = 0; tooth <= 23; tooth++) {
            Check.due("wear(1, " + tooth + ")", x.wear(1, tooth), tooth == 5 ? 0 : 3);
            Check.due("wear(2, " + tooth + ")", x.wear(2, tooth), 3);
        }
    }

    @Edge("Undoable.")
    static void promise9_mendingAToothWithoutWearIsUndoableToo() {
        Arms.undoBringsBack(new ArmTolls(), "mend(0, 0)", x -> x.mend(0, 0));
        Arms.undoBringsBack(Arms.worn(23, 98), "mend(0, 23)", x -> x.mend(0, 23));
    }

    @Edge("axis: its number")
    static void promise9_teethOfTheFirstAndTheLastAxisAreMended() {
        ArmTolls x = new ArmTolls();
        x.step(0, 1);
        x.step(3, 1);
        Check.due("mend(0, 0)", x.mend(0, 0), 3);
        Check.due("mend(3, 0)", x.mend(3, 0), 3);
        Check.due("count(5)", x.count(5), 0);
    }

    @Edge("tooth: 0 to 23")
    static void promise9_theTeeth0And23AreMended() {
        ArmTolls x = new ArmTolls();
        x.step(0, 24);
        Check.due("mend(0, 0)", x.mend(0, 0), 3);
        Check.due("mend(0, 23)", x.mend(0, 23), 3);
        Check.due("count(5)", x.count(5), 22 * 3);
    }

    @Edge("Returns what it costs: its wear times setting 3.")
    static void promise9_theAnswerIs0WithoutWearOrForNothing() {
        ArmTolls x = Arms.worn(0, 98);
        Check.due("mend(0, 1), no wear", x.mend(0, 1), 0);
        x.set(3, 0);
        Check.due("mend(0, 0), for nothing", x.mend(0, 0), 0);
        Check.due("wear(0, 0)", x.wear(0, 0), 0);
    }

    @Edge("Returns what it costs: its wear times setting 3.")
    static void promise9_theMostItCostsIs99Times20() {
        ArmTolls x = Arms.worn(0, 98);
        x.earn(2000);
        x.set(0, 20);
        x.step(0, 1);
        x.set(3, 20);
        int purse = x.count(0);
        Check.due("mend(0, 0)", x.mend(0, 0), 1980);
        Check.due("count(0)", x.count(0), purse - 1980);
    }

    @Edge("Throws IndexOutOfBoundsException if there is no such axis or tooth")
    static void promise9_noSuchAxisIsRefused() {
        Arms.refusesOutside(0, 3, "mend(n, 0)", Check.INDEX, (x, n) -> x.mend(n, 0));
    }

    @Edge("Throws IndexOutOfBoundsException if there is no such axis or tooth")
    static void promise9_noSuchToothIsRefused() {
        Arms.refusesOutside(0, 23, "mend(0, n)", Check.INDEX, (x, n) -> x.mend(0, n));
        Arms.refusesOutside(0, 23, "mend(3, n)", Check.INDEX, (x, n) -> x.mend(3, n));
    }

    @Edge("Throws IllegalStateException if the purse has less than that")
    static void promise9_aPurseWith1LessIsRefused() {
        Check.refuses(Check.spentTo(19, Arms.worn(0, 20)), "mend(0, 0) with 19 of 20", Check.STATE, x -> x.mend(0, 0));
        ArmTolls y = Check.spentTo(0, Arms.worn(0, 1));
        Check.refuses(y, "mend(0, 0) with 0 of 1", Check.STATE, x -> x.mend(0, 0));
    }

    @Edge("Throws IllegalStateException if the purse has less than that")
    static void promise9_aPurseWithJustThatIsEnough() {
        ArmTolls x = Check.spentTo(20, Arms.worn(0, 20));
        Check.due("mend(0, 0) with 20 of 20", x.mend(0, 0), 20);
        Check.due("count(0)", x.count(0), 0);
    }

    @Edge("Throws IllegalStateException if the purse has less than that")
    static void promise9_anEmptyPurseIsEnoughFor0() {
        ArmTolls x = Check.spentTo(0, Arms.worn(0, 20));
        Check.due("mend(0, 1) with 0, no wear", x.mend(0, 1), 0);
        x.set(3, 0);
        Check.due("mend(0, 0) with 0, for nothing", x.mend(0, 0), 0);
    }
}
