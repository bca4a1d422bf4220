/** The edges of promises 1 to 4: a new object, earn, load, set. */
public final class PurseEdgesTest {
    private static final int[] LEAST_OF_SETTING = {0, 1, 1, 0, 0, 0};
    private static final int[] MOST_OF_SETTING = {20, 50, 99, 20, 100, 200};

    public static void main(String[] args) {
        Edges.run(PurseEdgesTest.class);
    }

    @Edge("Creates an arm with gears without wear, with an empty buffer.")
    static void promise1_noToothHasWear() {
        ArmTolls x = new ArmTolls();
        Check.due("count(5)", x.count(5), 0);
        Check.due("wear(0, 0)", x.wear(0, 0), 0);
        Check.due("wear(3, 23)", x.wear(3, 23), 0);
    }

    @Edge("Creates an arm with gears without wear, with an empty buffer.")
    static void promise1_theBufferIsEmpty() {
        Check.due("clearBuffer()", new ArmTolls().clearBuffer(), 0);
        Check.due("append('a')", new ArmTolls().append('a'), 1);
    }

    @Edge("Creates an arm")
    static void promise1_nothingIsCountedAndNoStateIsSaved() {
        ArmTolls x = new ArmTolls();
        for (int what : new int[] {1, 2, 3, 4, 8}) {
            Check.due("count(" + what + ")", x.count(what), 0);
        }
        Check.refuses(x, "undo()", Check.STATE, y -> y.undo());
    }

    @Edge("Creates an arm")
    static void promise1_armsAreApart() {
        ArmTolls one = new ArmTolls();
        ArmTolls other = new ArmTolls();
        long before = other.digest();
        one.step(0, 5);
        one.set(0, 20);
        one.append('a');
        Check.due("digest() of the other arm", other.digest(), before);
        Check.due("undo() of the one", one.undo(), 1);
    }

    @Edge("Puts money into the purse.")
    static void promise2_anEmptyPurseIsFilled() {
        ArmTolls x = Check.armWithPurse(0);
        x.earn(7);
        Check.due("count(0)", x.count(0), 7);
    }

    @Edge("Undoable.")
    static void promise2_undoTakesTheMoneyBackFromAFullPurse() {
        Arms.undoBringsBack(Arms.rich(99999), "earn(1)", x -> x.earn(1));
    }

    @Edge("money: 1 to 10000")
    static void promise2_moneyIs1AtLeast() {
        Check.due("earn(1)", new ArmTolls().earn(1), 1001);
    }

    @Edge("money: 1 to 10000")
    static void promise2_moneyIs10000AtMost() {
        Check.due("earn(10000)", new ArmTolls().earn(10000), 11000);
    }

    @Edge("Returns what is in the purse then.")
    static void promise2_theAnswerIsThePurseAfterTheCall() {
        ArmTolls x = Check.armWithPurse(0);
        Check.due("earn(3)", x.earn(3), 3);
        Check.due("earn(4)", x.earn(4), 7);
        Check.due("count(0)", x.count(0), 7);
    }

    @Edge("Throws IllegalArgumentException if money is out of range")
    static void promise2_money0AndLessIsRefused() {
        Check.refusesEach(new ArmTolls(), "earn(n)", Check.ARGUMENT, Arms.below(1), (x, n) -> x.earn(n));
    }

    @Edge("Throws IllegalArgumentException if money is out of range")
    static void promise2_moneyAbove10000IsRefused() {
        Check.refusesEach(new ArmTolls(), "earn(n)", Check.ARGUMENT, Arms.above(10000), (x, n) -> x.earn(n));
    }

    @Edge("Throws IllegalStateException if there would be more than 100000 in it")
    static void promise2_aPurseOf100000IsNotTooMuch() {
        Check.due("earn(1) with 99999", Arms.rich(99999).earn(1), 100000);
        Check.due("earn(10000) with 90000", Arms.rich(90000).earn(10000), 100000);
    }

    @Edge("Throws IllegalStateException if there would be more than 100000 in it")
    static void promise2_aPurseOf100001IsTooMuch() {
        Check.refuses(Arms.rich(100000), "earn(1) with 100000", Check.STATE, x -> x.earn(1));
        Check.refuses(Arms.rich(99999), "earn(2) with 99999", Check.STATE, x -> x.earn(2));
        Check.refuses(Arms.rich(90001), "earn(10000) with 90001", Check.STATE, x -> x.earn(10000));
    }

    @Edge("Changes the load of an axis.")
    static void promise3_theOtherAxesKeepTheirLoad() {
        ArmTolls x = new ArmTolls();
        x.load(2, 5);
        int[] loads = {0, 0, 5, 0};
        for (int axis = 0; axis <= 3; axis++) {
            Check.due("axis(" + axis + ", 2)", x.axis(axis, 2), loads[axis]);
        }
    }

    @Edge("Undoable.")
    static void promise3_undoBringsTheLoadBackAlsoTheSameOne() {
        ArmTolls x = new ArmTolls();
        x.load(0, 5);
        Arms.undoBringsBack(x, "load(0, 0)", y -> y.load(0, 0));
        Arms.undoBringsBack(x, "load(0, 5)", y -> y.load(0, 5));
    }

    @Edge("axis: its number")
    static void promise3_theFirstAndTheLastAxisAreLoaded() {
        ArmTolls x = new ArmTolls();
        x.load(0, 1);
        x.load(3, 2);
        Check.due("axis(0, 2)", x.axis(0, 2), 1);
        Check.due("axis(3, 2)", x.axis(3, 2), 2);
    }

    @Edge("load: 0 to 5")
    static void promise3_aLoadIs0AtLeastAnd5AtMost() {
        ArmTolls x = new ArmTolls();
        x.load(1, 5);
        Check.due("axis(1, 2)", x.axis(1, 2), 5);
        x.load(1, 0);
        Check.due("axis(1, 2)", x.axis(1, 2), 0);
    }

    @Edge("Returns the previous load.")
    static void promise3_theAnswerIsTheLoadBeforeAlsoTheSameOne() {
        ArmTolls x = new ArmTolls();
        Check.due("load(1, 0), the first one", x.load(1, 0), 0);
        Check.due("load(1, 5)", x.load(1, 5), 0);
        Check.due("load(1, 5) once more", x.load(1, 5), 5);
        Check.due("load(1, 0)", x.load(1, 0), 5);
    }

    @Edge("Throws IndexOutOfBoundsException if there is no such axis")
    static void promise3_noSuchAxisIsRefused() {
        Arms.refusesOutside(0, 3, "load(n, 1)", Check.INDEX, (x, n) -> x.load(n, 1));
    }

    @Edge("Throws IllegalArgumentException if load is out of range")
    static void promise3_aLoadBelow0IsRefused() {
        Check.refusesEach(new ArmTolls(), "load(0, n)", Check.ARGUMENT, Arms.below(0), (x, n) -> x.load(0, n));
    }

    @Edge("Throws IllegalArgumentException if load is out of range")
    static void promise3_aLoadAbove5IsRefused() {
        Check.refusesEach(new ArmTolls(), "load(3, n)", Check.ARGUMENT, Arms.above(5), (x, n) -> x.load(3, n));
    }

    @Edge("Changes a setting.")
    static void promise4_theOtherSettingsAreKept() {
        int[] first = {3, 10, 40, 1, 12, 15};
        for (int setting = 0; setting <= 5; setting++) {
            ArmTolls x = new ArmTolls();
            x.set(setting, 2);
            for (int other = 0; other <= 5; other++) {
                Check.due("setting(" + other + ") after set(" + setting + ", 2)", x.setting(other),
                    other == setting ? 2 : first[other]);
            }
        }
    }

    @Edge("Undoable.")
    static void promise4_undoBringsEachSettingBackAlsoTheSameOne() {
        for (int i = 0; i <= 5; i++) {
            int setting = i;
            Arms.undoBringsBack(new ArmTolls(), "set(" + setting + ", 4)", x -> x.set(setting, 4));
            Arms.undoBringsBack(new ArmTolls(), "set to the same", x -> x.set(setting, x.setting(setting)));
        }
    }

    @Edge("setting: 0 to 5")
    static void promise4_theSettings0And5AreThere() {
        ArmTolls x = new ArmTolls();
        x.set(0, 11);
        x.set(5, 12);
        Check.due("setting(0)", x.setting(0), 11);
        Check.due("setting(5)", x.setting(5), 12);
    }

    @Edge("value: the new value")
    static void promise4_theLeastAndTheMostValueOfEachSettingAreTaken() {
        ArmTolls x = new ArmTolls();
        for (int setting = 0; setting <= 5; setting++) {
            x.set(setting, LEAST_OF_SETTING[setting]);
            Check.due("setting(" + setting + ")", x.setting(setting), LEAST_OF_SETTING[setting]);
            x.set(setting, MOST_OF_SETTING[setting]);
            Check.due("setting(" + setting + ")", x.setting(setting), MOST_OF_SETTING[setting]);
        }
    }

    @Edge("Returns the previous value.")
    static void promise4_theAnswerIsTheValueBeforeAlsoTheSameOne() {
        int[] first = {3, 10, 40, 1, 12, 15};
        ArmTolls x = new ArmTolls();
        for (int setting = 0; setting <= 5; setting++) {
            Check.due("set(" + setting + ", 20)", x.set(setting, 20), first[setting]);
            Check.due("set(" + setting + ", 20) once more", x.set(setting, 20), 20);
            Check.due("set(" + setting + ", 1)", x.set(setting, 1), 20);
        }
    }

    @Edge("Throws IndexOutOfBoundsException if there is no such setting")
    static void promise4_noSuchSettingIsRefused() {
        Arms.refusesOutside(0, 5, "set(n, 5)", Check.INDEX, (x, n) -> x.set(n, 5));
    }

    @Edge("Throws IllegalArgumentException if value is out of range")
    static void promise4_aValueBelowTheLeastIsRefused() {
        for (int i = 0; i <= 5; i++) {
            int setting = i;
            Check.refusesEach(new ArmTolls(), "set(" + setting + ", n)", Check.ARGUMENT,
                Arms.below(LEAST_OF_SETTING[setting]), (x, n) -> x.set(setting, n));
        }
    }

    @Edge("Throws IllegalArgumentException if value is out of range")
    static void promise4_aValueAboveTheMostIsRefused() {
        for (int i = 0; i <= 5; i++) {
            int setting = i;
            Check.refusesEach(new ArmTolls(), "set(" + setting + ", n)", Check.ARGUMENT,
                Arms.above(MOST_OF_SETTING[setting]), (x, n) -> x.set(setting, n));
        }
    }
}
