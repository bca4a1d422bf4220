/** Promises 19 to 26: toll, slips, cost, ifHomed, reach, couldBe, worst, meanToll. */
public final class WhatWouldBeTest {
    private static final int[] WRONG_AXES = {-1, 4, Integer.MIN_VALUE, Integer.MAX_VALUE};
    private static final int[] WRONG_PLACES = {-1, 24, Integer.MIN_VALUE, Integer.MAX_VALUE};

    public static void main(String[] args) {
        promise19Toll();
        promise20Slips();
        promise21Cost();
        promise22IfHomed();
        promise23Reach();
        promise24CouldBe();
        promise25Worst();
        promise25LittleWear();
        promise25Grease();
        promise26MeanToll();
        nothingIsChanged();
        Check.end("WhatWouldBeTest");
    }

    /** Gives a tooth of the axis 0 this wear (even, at most 40), by two steps; the axis is at the place 0 then. */
    private static void wearTooth(ArmTolls x, int tooth, int wear) {
        x.set(0, 0);
        if (tooth > 0) {
            x.step(0, tooth);
        }
        x.set(0, wear / 2);
        x.step(0, 1);
        x.step(0, -1);
        x.set(0, 0);
        x.home(0);
        Check.due("wear(0, " + tooth + ")", x.wear(0, tooth), wear);
    }

    private static void promise19Toll() {
        ArmTolls x = new ArmTolls();
        Check.due("toll(0, true)", x.toll(0, true), 1);
        Check.due("toll(0, false)", x.toll(0, false), 1);
        wearTooth(x, 0, 30);
        wearTooth(x, 23, 18);
        Check.due("toll(0, true)", x.toll(0, true), 4);
        Check.due("toll(0, false)", x.toll(0, false), 2);
        x.load(0, 5);
        Check.due("toll(0, true)", x.toll(0, true), 9);
        Check.due("toll(0, false)", x.toll(0, false), 7);
        x.set(1, 1);
        Check.due("toll(0, true)", x.toll(0, true), 36);
        x.grease(0);
        Check.due("toll(0, true)", x.toll(0, true), 18);
        Check.due("toll(0, false)", x.toll(0, false), 12);
        x.set(1, 50);
        Check.due("toll(0, true)", x.toll(0, true), 3);
        x.load(0, 0);
        Check.due("toll(0, true)", x.toll(0, true), 1);
        Check.due("toll(1, true)", x.toll(1, true), 1);
        slippedToll();
        Check.due("toll(0, true) with a purse of 0", Check.armWithPurse(0).toll(0, true), 1);
        for (int wrong : WRONG_AXES) {
            Check.refuses(x, "toll(" + wrong + ", true)", Check.INDEX, y -> y.toll(wrong, true));
        }
    }

    /** The toll is by the place at which the axis is, also when it believes to be at another one. */
    private static void slippedToll() {
        ArmTolls x = new ArmTolls();
        x.set(0, 20);
        x.step(0, 1);
        x.step(0, -1);
        x.step(0, 1);
        Check.due("toll(0, true) after a slip", x.toll(0, true), 7);
        Check.due("toll(0, false) after a slip", x.toll(0, false), 1);
    }

    private static void promise20Slips() {
        ArmTolls x = new ArmTolls();
        Check.due("slips(0, true)", x.slips(0, true), 0);
        Check.due("slips(0, false)", x.slips(0, false), 0);
        x.set(0, 20);
        x.step(0, 1);
        Check.due("slips(0, true) after up", x.slips(0, true), 0);
        Check.due("slips(0, false) after up", x.slips(0, false), 1);
        x.step(0, -1);
        Check.due("slips(0, true) after down, with 40", x.slips(0, true), 2);
        Check.due("slips(0, false) after down", x.slips(0, false), 0);
        x.set(2, 41);
        Check.due("slips(0, true) with 40 of 41", x.slips(0, true), 1);
        x.set(2, 39);
        Check.due("slips(0, true) with 40 of 39", x.slips(0, true), 2);
        x.home(0);
        Check.due("slips(0, true) after homing", x.slips(0, true), 0);
        Check.due("slips(1, true)", x.slips(1, true), 0);
        x.set(2, 40);
        x.step(0, -1);
        x.step(0, 1);
        x.step(0, -1);
        Check.due("slips(0, true), by the tooth 23 with 60", x.slips(0, true), 2);
        for (int wrong : WRONG_AXES) {
            Check.refuses(x, "slips(" + wrong + ", true)", Check.INDEX, y -> y.slips(wrong, true));
        }
    }

    private static void promise21Cost() {
        ArmTolls x = new ArmTolls();
        Check.due("cost(0, 0, true)", x.cost(0, 0, true), 0);
        Check.due("cost(0, 0, false)", x.cost(0, 0, false), 0);
        Check.due("cost(0, 1, true)", x.cost(0, 1, true), 1);
        Check.due("cost(0, 1, false)", x.cost(0, 1, false), 23);
        Check.due("cost(0, 23, true)", x.cost(0, 23, true), 23);
        Check.due("cost(0, 23, false)", x.cost(0, 23, false), 1);
        wearTooth(x, 2, 30);
        wearTooth(x, 23, 10);
        Check.due("cost(0, 2, true)", x.cost(0, 2, true), 2);
        Check.due("cost(0, 3, true)", x.cost(0, 3, true), 6);
        Check.due("cost(0, 3, false)", x.cost(0, 3, false), 22);
        Check.due("cost(0, 2, false)", x.cost(0, 2, false), 26);
        x.load(0, 1);
        Check.due("cost(0, 3, true)", x.cost(0, 3, true), 9);
        x.set(4, 2);
        x.grease(0);
        Check.due("cost(0, 3, true) with 2 greased steps", x.cost(0, 3, true), 1 + 1 + 5);
        Check.due("cost(0, 22, false) with 2 greased steps", x.cost(0, 22, false), 2 + 1);
        Check.due("cost(0, 21, false) with 2 greased steps", x.cost(0, 21, false), 2 + 1 + 2);
        x.set(0, 20);
        Check.due("cost(0, 3, true), each tooth as it is now", x.cost(0, 3, true), 7);
        believedCost();
        ArmTolls poor = Check.armWithPurse(0);
        Check.due("cost(0, 5, true) with a purse of 0", poor.cost(0, 5, true), 5);
        for (int wrong : WRONG_PLACES) {
            Check.refuses(x, "cost(0, " + wrong + ", true)", Check.ARGUMENT, y -> y.cost(0, wrong, true));
            Check.refuses(x, "cost(4, " + wrong + ", true)", Check.INDEX, y -> y.cost(4, wrong, true));
        }
        for (int wrong : WRONG_AXES) {
            Check.refuses(x, "cost(" + wrong + ", 0, true)", Check.INDEX, y -> y.cost(wrong, 0, true));
        }
    }

    private static void believedCost() {
        ArmTolls x = new ArmTolls();
        x.set(0, 20);
        x.step(0, 1);
        x.step(0, -1);
        x.step(0, 1);
        Check.due("cost(0, 1, true), where it believes to be", x.cost(0, 1, true), 0);
        Check.due("cost(0, 1, false), where it believes to be", x.cost(0, 1, false), 0);
        Check.due("cost(0, 0, false) by the tooth 0", x.cost(0, 0, false), 7);
        Check.due("cost(0, 2, true) by the tooth 1", x.cost(0, 2, true), 1);
    }

    private static void homing(ArmTolls x, int axis, int... facts) {
        for (int what = 0; what < 3; what++) {
            Check.due("ifHomed(" + axis + ", " + what + ")", x.ifHomed(axis, what), facts[what]);
        }
        int tolls = x.count(2);
        Check.due("home(" + axis + ")", x.home(axis), facts[2] == 1 ? facts[0] : ArmTolls.NONE);
        Check.due("count(2)", x.count(2), tolls + facts[1]);
        x.undo();
    }

    private static void promise22IfHomed() {
        ArmTolls x = new ArmTolls();
        homing(x, 0, 0, 0, 1);
        x.load(0, 1);
        x.step(0, 5);
        homing(x, 0, 5, 10, 1);
        x.step(0, -6);
        homing(x, 0, 23, 23 * 2, 1);
        x.step(0, 3);
        x.set(2, 9);
        homing(x, 0, 2 + 1, 2 * 2 + 3, 1);
        x.home(0);
        homing(x, 0, 0, 0, 1);
        ArmTolls poor = Check.armWithPurse(9);
        poor.step(1, 5);
        homing(poor, 1, 4, 4, 0);
        poor.step(1, 4);
        homing(poor, 1, 0, 0, 0);
        homing(poor, 2, 0, 0, 1);
        for (int wrong : new int[] {-1, 3, Integer.MIN_VALUE, Integer.MAX_VALUE}) {
            Check.refuses(x, "ifHomed(0, " + wrong + ")", Check.ARGUMENT, y -> y.ifHomed(0, wrong));
            Check.refuses(x, "ifHomed(4, " + wrong + ")", Check.INDEX, y -> y.ifHomed(4, wrong));
        }
        for (int wrong : WRONG_AXES) {
            Check.refuses(x, "ifHomed(" + wrong + ", 0)", Check.INDEX, y -> y.ifHomed(wrong, 0));
        }
    }

    private static void promise23Reach() {
        Check.due("reach(0, true)", new ArmTolls().reach(0, true), 100);
        Check.due("reach(0, false)", new ArmTolls().reach(0, false), 100);
        int[] purses = {0, 1, 3, 99, 103, 104, 105};
        int[] reached = {0, 1, 3, 97, 99, 100, 100};
        for (int i = 0; i < purses.length; i++) {
            ArmTolls x = Check.armWithPurse(purses[i]);
            Check.due("reach(0, true) with " + purses[i], x.reach(0, true), reached[i]);
            Check.due("reach(0, false) with " + purses[i], x.reach(0, false), reached[i]);
        }
        ArmTolls x = Check.armWithPurse(20);
        x.load(0, 3);
        Check.due("reach(0, true) with a load of 3", x.reach(0, true), 5);
        x.set(4, 2);
        x.set(5, 0);
        x.grease(0);
        Check.due("reach(0, true) with 2 greased steps", x.reach(0, true), 6);
        ArmTolls y = Check.armWithPurse(16);
        y.set(0, 20);
        y.step(0, 1);
        y.step(0, -1);
        y.set(0, 0);
        Check.due("reach(0, true) with 12, twice by the tooth 0", y.reach(0, true), 2 + 2);
        Check.due("reach(0, false) with 12", y.reach(0, false), 12);
        for (int wrong : WRONG_AXES) {
            Check.refuses(x, "reach(" + wrong + ", true)", Check.INDEX, z -> z.reach(wrong, true));
        }
    }

    private static void promise24CouldBe() {
        ArmTolls x = new ArmTolls();
        Check.due("couldBe(0)", x.couldBe(0), 1);
        x.step(0, 23);
        Check.due("couldBe(0) at 23", x.couldBe(0), 1 << 23);
        x.step(0, 2);
        x.step(0, -1);
        Check.due("couldBe(0) at 0 with a slack of 1", x.couldBe(0), (1 << 23) + 1 + 2);
        x.set(0, 0);
        for (int slack = 2; slack <= 14; slack++) {
            x.step(0, slack % 2 == 0 ? 1 : -1);
            int wanted = 0;
            for (int away = -Math.min(slack, 12); away <= Math.min(slack, 12); away++) {
                wanted |= 1 << Math.floorMod((slack % 2 == 0 ? 1 : 0) + away, 24);
            }
            Check.due("couldBe(0) with a slack of " + slack, x.couldBe(0), wanted);
        }
        Check.due("couldBe(0) with a slack of 12", x.couldBe(0), (1 << 24) - 1);
        x.home(0);
        Check.due("couldBe(0) after homing", x.couldBe(0), 1);
        ArmTolls y = new ArmTolls();
        y.set(0, 20);
        y.step(0, 1);
        y.step(0, -1);
        y.step(0, 1);
        Check.due("couldBe(0), where it believes to be", y.couldBe(0), (1 << 23) + 1 + 2 + 4 + 8);
        for (int wrong : WRONG_AXES) {
            Check.refuses(x, "couldBe(" + wrong + ")", Check.INDEX, z -> z.couldBe(wrong));
        }
    }

    private static void promise25Worst() {
        ArmTolls x = new ArmTolls();
        Check.due("worst(0, 12) without wear", x.worst(0, 12), ArmTolls.NONE);
        wearTooth(x, 1, 20);
        wearTooth(x, 2, 20);
        Check.due("worst(0, 0), where it believes to be", x.worst(0, 0), ArmTolls.NONE);
        Check.due("worst(0, 1), no tooth of this way", x.worst(0, 1), ArmTolls.NONE);
        Check.due("worst(0, 3), the lowest of two", x.worst(0, 3), 1);
        wearTooth(x, 4, 30);
        Check.due("worst(0, 6), the one that spares most", x.worst(0, 6), 4);
        Check.due("worst(0, 4)", x.worst(0, 4), 1);
        Check.due("worst(0, 20), the way down is without wear", x.worst(0, 20), ArmTolls.NONE);
        x.set(1, 50);
        Check.due("worst(0, 6) where wear takes no toll", x.worst(0, 6), ArmTolls.NONE);
        ArmTolls y = new ArmTolls();
        wearTooth(y, 5, 30);
        y.set(1, 1);
        Check.due("worst(0, 11), of the way that is dearer now", y.worst(0, 11), 5);
        Check.due("worst(0, 12), where it would cost as much", y.worst(0, 12), ArmTolls.NONE);
        y.step(0, -1);
        Check.due("worst(0, 11) from 23, where it would cost as much", y.worst(0, 11), ArmTolls.NONE);
        y.step(0, -2);
        y.load(0, 3);
        Check.due("worst(0, 6) from 21", y.worst(0, 6), 5);
        for (int wrong : WRONG_PLACES) {
            Check.refuses(x, "worst(0, " + wrong + ")", Check.ARGUMENT, z -> z.worst(0, wrong));
            Check.refuses(x, "worst(4, " + wrong + ")", Check.INDEX, z -> z.worst(4, wrong));
        }
        for (int wrong : WRONG_AXES) {
            Check.refuses(x, "worst(" + wrong + ", 0)", Check.INDEX, z -> z.worst(wrong, 0));
        }
    }

    private static void promise25LittleWear() {
        ArmTolls x = new ArmTolls();
        x.set(0, 1);
        x.step(0, 24);
        x.set(1, 2);
        Check.due("worst(0, 3), a wear of 1 by 2", x.worst(0, 3), ArmTolls.NONE);
        x.set(1, 1);
        Check.due("worst(0, 3), a wear of 1 by 1", x.worst(0, 3), 0);
        Check.due("worst(0, 22)", x.worst(0, 22), 22);
    }

    private static void promise25Grease() {
        ArmTolls x = new ArmTolls();
        wearTooth(x, 0, 30);
        wearTooth(x, 1, 20);
        Check.due("worst(0, 2)", x.worst(0, 2), 0);
        x.set(4, 1);
        x.grease(0);
        Check.due("worst(0, 2), the first step greased: 2 less 1 against 3 less 1", x.worst(0, 2), 1);
    }

    private static void mean(ArmTolls x, double want) {
        Check.due("bits of meanToll()", Double.doubleToLongBits(x.meanToll()), Double.doubleToLongBits(want));
    }

    private static void promise26MeanToll() {
        ArmTolls x = new ArmTolls();
        mean(x, 0.0);
        x.step(0, 3);
        mean(x, 1.0);
        x.load(1, 3);
        x.step(1, 4);
        mean(x, 19.0 / 7.0);
        x.step(2, -4);
        mean(x, 23.0 / 11.0);
        x.grease(0);
        mean(x, 23.0 / 11.0);
        x.undo();
        x.undo();
        x.undo();
        mean(x, 1.0);
        ArmTolls y = new ArmTolls();
        y.load(0, 3);
        y.step(0, 1);
        mean(y, 4.0);
    }

    private static void nothingIsChanged() {
        ArmTolls x = Check.armWithPurse(50);
        x.set(0, 20);
        x.step(2, 5);
        x.step(2, -3);
        x.grease(2);
        Check.type(x, "a+5;");
        long before = x.digest();
        for (int axis = 0; axis < 4; axis++) {
            x.toll(axis, true);
            x.slips(axis, false);
            x.cost(axis, 7, false);
            x.ifHomed(axis, 0);
            x.ifHomed(axis, 2);
            x.reach(axis, true);
            x.couldBe(axis);
            x.worst(axis, 20);
            x.meanToll();
            Check.due("digest() after what would be", x.digest(), before);
        }
    }
}
