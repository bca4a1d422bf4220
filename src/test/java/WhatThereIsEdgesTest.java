/** The edges of promises 15 to 18: axis, wear, count, setting. */
public final class WhatThereIsEdgesTest {
    public static void main(String[] args) {
        Edges.run(WhatThereIsEdgesTest.class);
    }

    // ---- promise 15

    @Edge("Returns a property of an axis.")
    static void promise15_nothingIsChanged() {
        ArmTolls x = Arms.slipped();
        long before = x.digest();
        for (int what = 0; what <= 11; what++) {
            x.axis(0, what);
        }
        Check.due("digest()", x.digest(), before);
    }

    @Edge("axis: its number")
    static void promise15_theFirstAndTheLastAxisAnswer() {
        ArmTolls x = new ArmTolls();
        x.load(0, 1);
        x.load(3, 4);
        Check.due("axis(0, 2)", x.axis(0, 2), 1);
        Check.due("axis(3, 2)", x.axis(3, 2), 4);
    }

    @Edge("what: 0: the place at which it is;")
    static void promise15_0IsThePlaceAtWhichItIs0To23() {
        ArmTolls x = Arms.slipped();
        Check.due("axis(0, 0) after a slip", x.axis(0, 0), 1);
        x.step(0, -1);
        Check.due("axis(0, 0)", x.axis(0, 0), 0);
        x.step(0, -1);
        Check.due("axis(0, 0)", x.axis(0, 0), 23);
    }

    @Edge("1: the place at which it believes to be;")
    static void promise15_1IsTheBelievedPlace0To23() {
        ArmTolls x = Arms.slipped();
        Check.due("axis(0, 1) after a slip", x.axis(0, 1), 0);
        x.step(0, -1);
        Check.due("axis(0, 1)", x.axis(0, 1), 23);
    }

    @Edge("2: its load;")
    static void promise15_2IsTheLoad0To5() {
        ArmTolls x = new ArmTolls();
        for (int load = 0; load <= 5; load++) {
            x.load(1, load);
            Check.due("axis(1, 2)", x.axis(1, 2), load);
        }
    }

    @Edge("3: its way;")
    static void promise15_3IsTheWayMinus1To1() {
        ArmTolls x = new ArmTolls();
        Check.due("axis(1, 3)", x.axis(1, 3), 0);
        x.step(1, -1);
        Check.due("axis(1, 3)", x.axis(1, 3), -1);
        x.step(1, 2);
        Check.due("axis(1, 3)", x.axis(1, 3), 1);
    }

    @Edge("4: its slack;")
    static void promise15_4IsTheSlack0To12() {
        ArmTolls x = Arms.unwearing();
        for (int step = 0; step <= 14; step++) {
            x.step(1, step % 2 == 0 ? 1 : -1);
            Check.due("axis(1, 4) after " + step + " turns", x.axis(1, 4), Math.min(step, 12));
        }
    }

    @Edge("5: its greased steps;")
    static void promise15_5IsTheGreasedSteps0To100() {
        ArmTolls x = new ArmTolls();
        Check.due("axis(1, 5)", x.axis(1, 5), 0);
        x.set(4, 100);
        x.grease(1);
        Check.due("axis(1, 5)", x.axis(1, 5), 100);
    }

    @Edge("6: steps so far;")
    static void promise15_6CountsStepsOfAllKinds() {
        ArmTolls x = new ArmTolls();
        x.step(0, 3);
        x.go(0, 1);
        x.home(0);
        Arms.typedAndRun(x, "a+2;a=0;ah;b+5");
        Check.due("axis(0, 6)", x.axis(0, 6), 3 + 2 + 1 + 2 + 2);
        Check.due("axis(1, 6)", x.axis(1, 6), 5);
        Check.due("axis(2, 6)", x.axis(2, 6), 0);
    }

    @Edge("6: steps so far;")
    static void promise15_6CountsStepsThatSlipToo() {
        ArmTolls x = Arms.worn(0, 40);
        x.step(0, 1);
        int before = x.axis(0, 6);
        x.step(0, -1);
        Check.due("axis(0, 0)", x.axis(0, 0), 1);
        Check.due("axis(0, 6) more", x.axis(0, 6) - before, 1);
    }

    @Edge("7: of these, slips;")
    static void promise15_7CountsSlipsAlsoByHoming() {
        ArmTolls x = Arms.worn(0, 40);
        x.step(0, 1);
        Check.due("axis(0, 7) ahead of a slip", x.axis(0, 7), 0);
        x.home(0);
        Check.due("axis(0, 7)", x.axis(0, 7), 1);
        Check.axisIs(x, 0, 0, 0);
    }

    @Edge("8: tolls so far;")
    static void promise15_8CountsTollsButNotTheCare() {
        ArmTolls x = new ArmTolls();
        x.load(0, 1);
        x.step(0, 2);
        x.grease(0);
        x.step(0, 1);
        x.mend(0, 0);
        Check.due("axis(0, 8)", x.axis(0, 8), 2 + 2 + 1);
    }

    @Edge("9: how far it is from where it believes to be (the lesser number of steps from the one place to the other one);")
    static void promise15_9IsTheLesserNumberOfSteps0To12() {
        ArmTolls x = Arms.worn(0, 40);
        x.step(0, -24);
        Check.due("axis(0, 9)", x.axis(0, 9), 0);
        for (int far = 1; far <= 24; far++) {
            x.earn(200);
            x.step(0, 1);
            x.step(0, -24);
            Check.due("axis(0, 9) at 0, believing " + far % 24, x.axis(0, 9), Math.min(far, 24 - far));
            Check.axisIs(x, 0, 0, far % 24);
        }
    }

    @Edge("10: turns so far;")
    static void promise15_10CountsTurnsAlsoThoseThatSlip() {
        ArmTolls x = new ArmTolls();
        x.step(0, 3);
        Check.due("axis(0, 10) without a turn", x.axis(0, 10), 0);
        x.set(2, 1);
        x.step(0, -1);
        Check.due("axis(0, 7)", x.axis(0, 7), 1);
        Check.due("axis(0, 10)", x.axis(0, 10), 1);
        x.home(0);
        x.step(0, 1);
        Check.due("axis(0, 10) is kept by homing", x.axis(0, 10), 1);
    }

    @Edge("11: how often it was homed so far (also without a step)")
    static void promise15_11CountsHomingWithoutAStepToo() {
        ArmTolls x = new ArmTolls();
        x.home(0);
        x.home(0);
        Check.due("axis(0, 11)", x.axis(0, 11), 2);
        x.step(0, 2);
        x.home(0);
        Check.due("axis(0, 11)", x.axis(0, 11), 3);
        Check.due("axis(1, 11)", x.axis(1, 11), 0);
    }

    @Edge("11: how often it was homed so far (also without a step)")
    static void promise15_11DoesNotCountHomingThatFailed() {
        ArmTolls x = Check.armWithPurse(5);
        x.step(0, 3);
        x.home(0);
        Check.axisIs(x, 0, 1, 1);
        Check.due("axis(0, 11)", x.axis(0, 11), 0);
    }

    @Edge("Returns the property.")
    static void promise15_allPropertiesOfANewArmAre0() {
        for (int axis = 0; axis <= 3; axis++) {
            Check.axisIs(new ArmTolls(), axis, 0, 0, 0, 0, 0, 0, 0, 0, 0, 0, 0, 0);
        }
    }

    @Edge("Throws IndexOutOfBoundsException if there is no such axis")
    static void promise15_noSuchAxisIsRefused() {
        Arms.refusesOutside(0, 3, "axis(n, 0)", Check.INDEX, (x, n) -> x.axis(n, 0));
        Arms.refusesOutside(0, 3, "axis(n, 11)", Check.INDEX, (x, n) -> x.axis(n, 11));
    }

    @Edge("Throws IllegalArgumentException if what is not 0 to 11")
    static void promise15_whatBelow0IsRefused() {
        Check.refusesEach(new ArmTolls(), "axis(0, n)", Check.ARGUMENT, Arms.below(0), (x, n) -> x.axis(0, n));
    }

    @Edge("Throws IllegalArgumentException if what is not 0 to 11")
    static void promise15_whatAbove11IsRefused() {
        Check.refusesEach(new ArmTolls(), "axis(3, n)", Check.ARGUMENT, Arms.above(11), (x, n) -> x.axis(3, n));
    }

    // ---- promise 16

    @Edge("Returns the wear of a tooth.")
    static void promise16_nothingIsChanged() {
        ArmTolls x = Arms.slipped();
        long before = x.digest();
        x.wear(0, 0);
        Check.due("digest()", x.digest(), before);
    }

    @Edge("axis: its number")
    static void promise16_theFirstAndTheLastAxisAnswer() {
        ArmTolls x = new ArmTolls();
        x.step(0, 1);
        Check.due("wear(3, 0)", x.wear(3, 0), 0);
        x.step(3, 1);
        x.step(3, 24);
        Check.due("wear(0, 0)", x.wear(0, 0), 3);
        Check.due("wear(3, 0)", x.wear(3, 0), 6);
    }

    @Edge("tooth: 0 to 23")
    static void promise16_theTeeth0And23Answer() {
        ArmTolls x = new ArmTolls();
        x.step(0, 1);
        x.step(1, -1);
        Check.due("wear(0, 0)", x.wear(0, 0), 3);
        Check.due("wear(0, 23)", x.wear(0, 23), 0);
        Check.due("wear(1, 0)", x.wear(1, 0), 0);
        Check.due("wear(1, 23)", x.wear(1, 23), 3);
    }

    @Edge("Returns the wear.")
    static void promise16_theWearIs0To99() {
        ArmTolls x = new ArmTolls();
        x.set(0, 20);
        x.set(2, 99);
        int[] wears = {20, 40, 60, 80, 99, 99};
        Check.due("wear(0, 0) at first", x.wear(0, 0), 0);
        for (int i = 0; i < wears.length; i++) {
            x.step(0, i % 2 == 0 ? 1 : -1);
            Check.due("wear(0, 0) after " + (i + 1) + " steps", x.wear(0, 0), wears[i]);
        }
    }

    @Edge("Throws IndexOutOfBoundsException if there is no such axis or tooth")
    static void promise16_noSuchAxisIsRefused() {
        Arms.refusesOutside(0, 3, "wear(n, 0)", Check.INDEX, (x, n) -> x.wear(n, 0));
        Arms.refusesOutside(0, 3, "wear(n, 23)", Check.INDEX, (x, n) -> x.wear(n, 23));
    }

    @Edge("Throws IndexOutOfBoundsException if there is no such axis or tooth")
    static void promise16_noSuchToothIsRefused() {
        Arms.refusesOutside(0, 23, "wear(0, n)", Check.INDEX, (x, n) -> x.wear(0, n));
        Arms.refusesOutside(0, 23, "wear(3, n)", Check.INDEX, (x, n) -> x.wear(3, n));
    }

    // ---- promise 17

    @Edge("Returns a number.")
    static void promise17_nothingIsChanged() {
        ArmTolls x = Arms.slipped();
        long before = x.digest();
        for (int what = 0; what <= 8; what++) {
            x.count(what);
        }
        Check.due("digest()", x.digest(), before);
    }

    @Edge("what: 0: the purse;")
    static void promise17_0IsThePurse0To100000() {
        Check.due("count(0)", Check.armWithPurse(0).count(0), 0);
        Check.due("count(0)", Arms.rich(100000).count(0), 100000);
    }

    @Edge("1: steps so far;")
    static void promise17_1CountsStepsOfAllAxes() {
        ArmTolls x = new ArmTolls();
        Check.due("count(1) without a step", x.count(1), 0);
        for (int axis = 0; axis <= 3; axis++) {
            x.step(axis, 1 + axis);
        }
        Check.due("count(1)", x.count(1), 1 + 2 + 3 + 4);
    }

    @Edge("2: tolls so far;")
    static void promise17_2CountsTollsOfAllAxesButNotTheCare() {
        ArmTolls x = new ArmTolls();
        Check.due("count(2) without a step", x.count(2), 0);
        for (int axis = 0; axis <= 3; axis++) {
            x.load(axis, axis + 1);
            x.step(axis, 1);
        }
        x.grease(0);
        x.mend(0, 0);
        Check.due("count(2)", x.count(2), 2 + 3 + 4 + 5);
    }

    @Edge("3: slips so far;")
    static void promise17_3CountsSlipsOfAllAxes() {
        ArmTolls x = new ArmTolls();
        x.set(2, 3);
        for (int axis = 0; axis <= 3; axis++) {
            x.step(axis, 1);
            x.step(axis, -1);
            Check.due("count(3)", x.count(3), axis + 1);
        }
    }

    @Edge("3: slips so far;")
    static void promise17_3DoesNotCountTurnsThatDoNotSlip() {
        ArmTolls x = new ArmTolls();
        x.step(0, 1);
        x.step(0, -1);
        Check.due("axis(0, 10)", x.axis(0, 10), 1);
        Check.due("count(3)", x.count(3), 0);
    }

    @Edge("4: what greasing and mending cost so far;")
    static void promise17_4CountsTheCareButNotTheTolls() {
        ArmTolls x = new ArmTolls();
        x.step(0, 5);
        Check.due("count(4) without care", x.count(4), 0);
        x.grease(3);
        Check.due("count(4)", x.count(4), 15);
        x.mend(0, 4);
        Check.due("count(4)", x.count(4), 18);
        x.set(5, 0);
        x.grease(0);
        x.mend(0, 4);
        Check.due("count(4) after care for 0", x.count(4), 18);
    }

    @Edge("5: wear of all teeth together;")
    static void promise17_5IsTheWearOfAll96Teeth() {
        ArmTolls x = new ArmTolls();
        Check.due("count(5) without wear", x.count(5), 0);
        for (int axis = 0; axis <= 3; axis++) {
            x.step(axis, 24);
        }
        Check.due("count(5)", x.count(5), 96 * 3);
        x.mend(3, 23);
        Check.due("count(5) after mending one", x.count(5), 95 * 3);
    }

    @Edge("6: teeth that slip (with a wear of at least setting 2);")
    static void promise17_6CountsTeethWithJustSetting2() {
        ArmTolls x = Arms.worn(0, 40);
        Check.due("count(6) with 40 of 40", x.count(6), 1);
        x.set(2, 41);
        Check.due("count(6) with 40 of 41", x.count(6), 0);
        x.set(2, 39);
        Check.due("count(6) with 40 of 39", x.count(6), 1);
    }

    @Edge("6: teeth that slip (with a wear of at least setting 2);")
    static void promise17_6Is0To96() {
        ArmTolls x = new ArmTolls();
        x.set(2, 1);
        Check.due("count(6) without wear", x.count(6), 0);
        for (int axis = 0; axis <= 3; axis++) {
            x.step(axis, -24);
            Check.due("count(6)", x.count(6), 24 * (axis + 1));
        }
    }

    @Edge("7: axes that are where they believe to be;")
    static void promise17_7Is4DownTo0() {
        ArmTolls x = new ArmTolls();
        x.set(2, 3);
        Check.due("count(7) at first", x.count(7), 4);
        for (int axis = 0; axis <= 3; axis++) {
            x.step(axis, 1);
            Check.due("count(7) after a step", x.count(7), 4 - axis);
            x.step(axis, -1);
            Check.due("count(7) after a slip", x.count(7), 3 - axis);
        }
        x.home(2);
        Check.due("count(7) after homing", x.count(7), 1);
    }

    @Edge("8: saved states")
    static void promise17_8Is0To6() {
        ArmTolls x = new ArmTolls();
        for (int saved = 0; saved <= 8; saved++) {
            Check.due("count(8)", x.count(8), Math.min(saved, 6));
            x.earn(1);
        }
        x.undo();
        Check.due("count(8) after undo()", x.count(8), 5);
    }

    @Edge("Returns the number.")
    static void promise17_theNumbersOfANewArm() {
        int[] counts = {1000, 0, 0, 0, 0, 0, 0, 4, 0};
        for (int what = 0; what <= 8; what++) {
            Check.due("count(" + what + ")", new ArmTolls().count(what), counts[what]);
        }
    }

    @Edge("Throws IllegalArgumentException if what is not 0 to 8")
    static void promise17_whatBelow0IsRefused() {
        Check.refusesEach(new ArmTolls(), "count(n)", Check.ARGUMENT, Arms.below(0), (x, n) -> x.count(n));
    }

    @Edge("Throws IllegalArgumentException if what is not 0 to 8")
    static void promise17_whatAbove8IsRefused() {
        Check.refusesEach(new ArmTolls(), "count(n)", Check.ARGUMENT, Arms.above(8), (x, n) -> x.count(n));
    }

    // ---- promise 18

    @Edge("Returns a setting.")
    static void promise18_nothingIsChanged() {
        ArmTolls x = Arms.slipped();
        long before = x.digest();
        x.setting(0);
        x.setting(5);
        Check.due("digest()", x.digest(), before);
    }

    @Edge("setting: 0 to 5")
    static void promise18_theSettings0And5Answer() {
        Check.due("setting(0)", new ArmTolls().setting(0), 3);
        Check.due("setting(5)", new ArmTolls().setting(5), 15);
    }

    @Edge("Returns its value.")
    static void promise18_theValueIsTheOneThatWasSetLastAndNotRefused() {
        ArmTolls x = new ArmTolls();
        x.set(5, 200);
        Check.refuses(x, "set(5, 201)", Check.ARGUMENT, y -> y.set(5, 201));
        Check.due("setting(5)", x.setting(5), 200);
        x.set(5, 0);
        Check.due("setting(5)", x.setting(5), 0);
        x.undo();
        Check.due("setting(5) after undo()", x.setting(5), 200);
    }

    @Edge("Throws IndexOutOfBoundsException if there is no such setting")
    static void promise18_noSuchSettingIsRefused() {
        Arms.refusesOutside(0, 5, "setting(n)", Check.INDEX, (x, n) -> x.setting(n));
    }
}
