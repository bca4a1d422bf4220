/** Promises 15 to 18: axis, wear, count, setting. */
public final class WhatThereIsTest {
    public static void main(String[] args) {
        promise15Axis();
        promise15Wrong();
        promise16Wear();
        promise17Count();
        promise18Setting();
        Check.end("WhatThereIsTest");
    }

    /** The axis 1 slipped once and then went on, so that it believes to be one place too high. */
    private static ArmTolls armThatSlipped() {
        ArmTolls x = new ArmTolls();
        x.set(0, 20);
        x.step(1, 1);
        x.step(1, -1);
        x.step(1, 1);
        return x;
    }

    private static void promise15Axis() {
        ArmTolls x = armThatSlipped();
        x.load(1, 2);
        x.grease(1);
        Check.axisIs(x, 1, 0, 1, 2, 1, 2, 12, 3, 1, 1 + 3 + 5, 1, 2, 0);
        x.step(1, -1);
        Check.axisIs(x, 1, 23, 0, 2, -1, 3, 11, 4, 1, 9 + 2, 1, 3, 0);
        x.home(1);
        Check.axisIs(x, 1, 0, 0, 2, 0, 0, 0, 27, 1, 11 + 11 * 2 + 11 * 3 + 3 + 6, 0, 3, 1);
        Check.axisIs(x, 0, 0, 0, 0, 0, 0, 0, 0, 0, 0, 0, 0, 0);
        farAway();
    }

    /** Each round slips once, by the tooth 0, so that the axis believes to be one place further up. */
    private static void farAway() {
        ArmTolls x = new ArmTolls();
        x.set(0, 20);
        x.step(0, 1);
        x.step(0, -1);
        x.set(0, 0);
        for (int far = 1; far <= 14; far++) {
            x.step(0, 1);
            Check.axisIs(x, 0, 0, far);
            Check.due("axis(0, 9) at " + far, x.axis(0, 9), Math.min(far, 24 - far));
            x.step(0, -24);
            Check.due("axis(0, 9) at " + far + " after a round", x.axis(0, 9), Math.min(far, 24 - far));
        }
        Check.due("axis(0, 7)", x.axis(0, 7), 14);
        Check.due("count(3)", x.count(3), 14);
    }

    private static void promise15Wrong() {
        ArmTolls x = new ArmTolls();
        for (int wrong : new int[] {-1, 12, Integer.MIN_VALUE, Integer.MAX_VALUE}) {
            Check.refuses(x, "axis(0, " + wrong + ")", Check.ARGUMENT, y -> y.axis(0, wrong));
            Check.refuses(x, "axis(4, " + wrong + ")", Check.INDEX, y -> y.axis(4, wrong));
        }
        for (int wrong : new int[] {-1, 4, Integer.MIN_VALUE, Integer.MAX_VALUE}) {
            Check.refuses(x, "axis(" + wrong + ", 0)", Check.INDEX, y -> y.axis(wrong, 0));
        }
    }

    private static void promise16Wear() {
        ArmTolls x = armThatSlipped();
        Check.due("wear(1, 0)", x.wear(1, 0), 60);
        Check.due("wear(1, 23)", x.wear(1, 23), 0);
        Check.due("wear(0, 0)", x.wear(0, 0), 0);
        x.step(3, -1);
        Check.due("wear(3, 23)", x.wear(3, 23), 20);
        for (int wrong : new int[] {-1, 24, Integer.MIN_VALUE, Integer.MAX_VALUE}) {
            Check.refuses(x, "wear(0, " + wrong + ")", Check.INDEX, y -> y.wear(0, wrong));
        }
        for (int wrong : new int[] {-1, 4, Integer.MIN_VALUE, Integer.MAX_VALUE}) {
            Check.refuses(x, "wear(" + wrong + ", 0)", Check.INDEX, y -> y.wear(wrong, 0));
        }
    }

    private static void promise17Count() {
        ArmTolls x = armThatSlipped();
        x.step(3, 2);
        x.grease(2);
        x.mend(3, 1);
        int[] counts = {1000 - 11 - 35, 5, 11, 1, 35, 80, 1, 3, 6};
        for (int what = 0; what < counts.length; what++) {
            Check.due("count(" + what + ")", x.count(what), counts[what]);
        }
        x.set(2, 20);
        Check.due("count(6) with 20", x.count(6), 2);
        x.set(2, 21);
        Check.due("count(6) with 21", x.count(6), 1);
        x.set(2, 61);
        Check.due("count(6) with 61", x.count(6), 0);
        x.home(1);
        Check.due("count(7) after homing", x.count(7), 4);
        ArmTolls z = new ArmTolls();
        z.set(0, 20);
        z.set(2, 20);
        for (int axis = 0; axis < 4; axis++) {
            z.step(axis, -2);
            z.step(axis, 1);
            Check.due("count(1)", z.count(1), 3 * (axis + 1));
            Check.due("count(5)", z.count(5), 60 * (axis + 1));
            Check.due("count(6)", z.count(6), 2 * (axis + 1));
            Check.due("count(7)", z.count(7), 3 - axis);
            Check.due("count(3)", z.count(3), axis + 1);
        }
        for (int wrong : new int[] {-1, 9, Integer.MIN_VALUE, Integer.MAX_VALUE}) {
            Check.refuses(x, "count(" + wrong + ")", Check.ARGUMENT, y -> y.count(wrong));
        }
    }

    private static void promise18Setting() {
        ArmTolls x = new ArmTolls();
        for (int setting = 0; setting < 6; setting++) {
            x.set(setting, 5 + setting);
        }
        for (int setting = 0; setting < 6; setting++) {
            Check.due("setting(" + setting + ")", x.setting(setting), 5 + setting);
        }
        x.undo();
        Check.due("setting(5) after undo", x.setting(5), 15);
        Check.due("setting(4) after undo", x.setting(4), 9);
        for (int wrong : new int[] {-1, 6, Integer.MIN_VALUE, Integer.MAX_VALUE}) {
            Check.refuses(x, "setting(" + wrong + ")", Check.INDEX, y -> y.setting(wrong));
        }
    }
}
