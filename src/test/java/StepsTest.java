/** Promises 5 to 7: step, go, home. */
public final class StepsTest {
    public static void main(String[] args) {
        promise5Ordinary();
        promise5Slips();
        promise5Limits();
        promise5Grease();
        promise5Purse();
        promise5Wrong();
        promise6Ordinary();
        promise6CheaperWay();
        promise6AfterASlip();
        promise6Purse();
        promise6Wrong();
        promise7Ordinary();
        promise7Slip();
        promise7Purse();
        promise7Wrong();
        Check.end("StepsTest");
    }

    /** The axis 0 at the place 0, believing so, with the way down and the tooth 0 with a wear of 40. */
    private static ArmTolls armWithAWornTooth() {
        ArmTolls x = new ArmTolls();
        x.set(0, 20);
        x.step(0, 1);
        x.step(0, -1);
        return x;
    }

    private static void promise5Ordinary() {
        ArmTolls x = new ArmTolls();
        Check.due("step(0, 3)", x.step(0, 3), 3);
        Check.axisIs(x, 0, 3, 3, 0, 1, 0, 0, 3, 0, 3, 0, 0, 0);
        Check.due("count(0)", x.count(0), 997);
        Check.due("wear(0, 0)", x.wear(0, 0), 3);
        Check.due("wear(0, 2)", x.wear(0, 2), 3);
        Check.due("wear(0, 3)", x.wear(0, 3), 0);
        Check.due("step(0, -1)", x.step(0, -1), 1);
        Check.axisIs(x, 0, 2, 2, 0, -1, 1, 0, 4, 0, 4, 0, 1, 0);
        Check.due("wear(0, 2)", x.wear(0, 2), 6);
        Check.due("step(1, -1)", x.step(1, -1), 1);
        Check.axisIs(x, 1, 23, 23, 0, -1, 0, 0, 1, 0, 1, 0, 0, 0);
        Check.due("wear(1, 23)", x.wear(1, 23), 3);
        Check.due("step(1, 24)", x.step(1, 24), 24);
        Check.axisIs(x, 1, 23, 23, 0, 1, 1, 0, 25, 0, 25, 0, 1, 0);
        Check.due("step(2, -24)", x.step(2, -24), 24);
        Check.axisIs(x, 2, 0, 0, 0, -1, 0, 0, 24, 0, 24, 0, 0, 0);
        x.load(3, 4);
        Check.due("step(3, 2)", x.step(3, 2), 2);
        Check.due("axis(3, 8)", x.axis(3, 8), 10);
        Check.undoable(x, "step(0, 5)", y -> y.step(0, 5));
        Check.undoable(x, "step(0, -5)", y -> y.step(0, -5));
    }

    private static void promise5Slips() {
        ArmTolls x = armWithAWornTooth();
        Check.axisIs(x, 0, 0, 0, 0, -1, 1, 0, 2, 0, 4, 0, 1, 0);
        Check.due("step(0, 1) that slips", x.step(0, 1), 1);
        Check.axisIs(x, 0, 0, 1, 0, 1, 2, 0, 3, 1, 9, 1, 2, 0);
        Check.due("wear(0, 0)", x.wear(0, 0), 60);
        Check.due("step(0, 1) that is no turn", x.step(0, 1), 1);
        Check.axisIs(x, 0, 1, 2, 0, 1, 2, 0, 4, 1, 16, 1, 2, 0);
        Check.due("wear(0, 0)", x.wear(0, 0), 80);
        Check.due("wear(0, 1)", x.wear(0, 1), 0);

        ArmTolls y = armWithAWornTooth();
        y.set(2, 41);
        Check.due("step(0, 1) by a wear of 40 of 41", y.step(0, 1), 1);
        Check.axisIs(y, 0, 1, 1, 0, 1, 2, 0, 3, 0, 9, 0, 2, 0);

        ArmTolls z = new ArmTolls();
        z.set(2, 1);
        z.set(0, 1);
        z.step(0, 1);
        Check.due("step(0, 2), no turn", z.step(0, 2), 2);
        Check.due("step(0, -1) by a wear of 1 of 1", z.step(0, -1), 1);
        Check.axisIs(z, 0, 3, 2, 0, -1, 1, 0, 4, 1, 4, 1, 1, 0);
        Check.due("step(0, 1), a turn by a tooth without wear", z.step(0, 1), 1);
        Check.axisIs(z, 0, 4, 3, 0, 1, 2, 0, 5, 1, 5, 1, 2, 0);
    }

    private static void promise5Limits() {
        ArmTolls x = new ArmTolls();
        x.set(0, 0);
        x.step(0, 1);
        for (int turn = 1; turn <= 14; turn++) {
            x.step(0, turn % 2 == 1 ? -1 : 1);
            Check.due("slack after the turn " + turn, x.axis(0, 4), Math.min(turn, 12));
        }
        Check.due("turns", x.axis(0, 10), 14);
        Check.due("wear(0, 0)", x.wear(0, 0), 0);
        x.set(0, 20);
        x.set(2, 99);
        x.set(1, 50);
        int[] wears = {20, 40, 60, 80, 99, 99};
        for (int i = 0; i < wears.length; i++) {
            x.step(0, 24);
            Check.due("wear(0, 5) after " + (i + 1) + " rounds", x.wear(0, 5), wears[i]);
        }
    }

    private static void promise5Grease() {
        ArmTolls x = new ArmTolls();
        x.set(4, 3);
        x.load(0, 4);
        x.grease(0);
        Check.due("step(0, 5) with 3 greased steps", x.step(0, 5), 5);
        Check.axisIs(x, 0, 5, 5, 4, 1, 0, 0, 5, 0, 3 + 3 + 3 + 5 + 5);
        x.load(0, 5);
        x.grease(0);
        Check.due("step(0, 2)", x.step(0, 2), 2);
        Check.axisIs(x, 0, 7, 7, 5, 1, 0, 1, 7, 0, 19 + 3 + 3);
    }

    private static void promise5Purse() {
        ArmTolls x = Check.armWithPurse(3);
        Check.due("step(0, 5) with 3", x.step(0, 5), 3);
        Check.axisIs(x, 0, 3, 3, 0, 1, 0, 0, 3, 0, 3, 0, 0, 0);
        Check.due("count(0)", x.count(0), 0);
        Check.refuses(x, "step(0, 1) with 0", Check.STATE, y -> y.step(0, 1));
        Check.refuses(x, "step(0, -1) with 0", Check.STATE, y -> y.step(0, -1));
        x.earn(2);
        x.load(0, 2);
        Check.refuses(x, "step(0, 1) with 2 of 3", Check.STATE, y -> y.step(0, 1));
        x.earn(1);
        Check.due("step(0, -2) with 3 of 3", x.step(0, -2), 1);
        Check.axisIs(x, 0, 2, 2, 2, -1, 1, 0, 4, 0, 6, 0, 1, 0);
    }

    private static void promise5Wrong() {
        ArmTolls x = new ArmTolls();
        ArmTolls poor = Check.armWithPurse(0);
        for (int wrong : new int[] {0, 25, -25, Integer.MIN_VALUE, Integer.MAX_VALUE}) {
            Check.refuses(x, "step(0, " + wrong + ")", Check.ARGUMENT, y -> y.step(0, wrong));
            Check.refuses(poor, "step(0, " + wrong + ") with 0", Check.ARGUMENT, y -> y.step(0, wrong));
            Check.refuses(x, "step(4, " + wrong + ")", Check.INDEX, y -> y.step(4, wrong));
        }
        for (int wrong : new int[] {-1, 4, Integer.MIN_VALUE, Integer.MAX_VALUE}) {
            Check.refuses(x, "step(" + wrong + ", 1)", Check.INDEX, y -> y.step(wrong, 1));
            Check.refuses(poor, "step(" + wrong + ", 1) with 0", Check.INDEX, y -> y.step(wrong, 1));
        }
    }

    private static void promise6Ordinary() {
        ArmTolls x = new ArmTolls();
        Check.due("go(0, 5)", x.go(0, 5), 5);
        Check.axisIs(x, 0, 5, 5, 0, 1, 0, 0, 5, 0, 5, 0, 0, 0);
        Check.due("go(1, 12), both ways cost the same", x.go(1, 12), 12);
        Check.axisIs(x, 1, 12, 12, 0, 1);
        Check.due("go(2, 13)", x.go(2, 13), 11);
        Check.axisIs(x, 2, 13, 13, 0, -1);
        Check.due("go(3, 23)", x.go(3, 23), 1);
        Check.axisIs(x, 3, 23, 23, 0, -1);
        Check.due("go(3, 0)", x.go(3, 0), 1);
        Check.axisIs(x, 3, 0, 0, 0, 1, 1);
        long steps = x.count(1);
        Check.due("go(3, 0) once more", x.go(3, 0), 0);
        Check.due("count(1)", x.count(1), steps);
        Check.undoable(new ArmTolls(), "go(0, 0)", y -> y.go(0, 0));
        Check.undoable(new ArmTolls(), "go(0, 9)", y -> y.go(0, 9));
    }

    private static void promise6CheaperWay() {
        ArmTolls x = armWithAWornTooth();
        x.set(1, 2);
        Check.due("cost(0, 2, true)", x.cost(0, 2, true), 22);
        Check.due("cost(0, 2, false)", x.cost(0, 2, false), 22);
        Check.undoable(x, "go(0, 2)", y -> y.go(0, 2));
        Check.due("go(0, 2) at the same cost, by a slip", x.go(0, 2), 21 + 31);
        Check.axisIs(x, 0, 1, 2, 0, 1, 2, 0, 4, 1);

        ArmTolls y = armWithAWornTooth();
        y.set(1, 1);
        Check.due("go(0, 2) by the long way", y.go(0, 2), 22);
        Check.axisIs(y, 0, 2, 2, 0, -1, 1, 0, 24, 0);

        ArmTolls z = armWithAWornTooth();
        z.set(1, 1);
        z.set(4, 1);
        z.grease(0);
        Check.due("go(0, 2) up by the greased step", z.go(0, 2), 21 + 61);
        Check.axisIs(z, 0, 1, 2, 0, 1);
    }

    private static void promise6AfterASlip() {
        ArmTolls x = armWithAWornTooth();
        x.step(0, 1);
        x.set(1, 1);
        Check.due("cost(0, 3, true) from the believed place 1", x.cost(0, 3, true), 2);
        Check.due("go(0, 3) by the tooth 0, with a wear of 60, and the tooth 1", x.go(0, 3), 61 + 1);
        Check.axisIs(x, 0, 2, 3, 0, 1, 2, 0, 5, 1);
    }

    private static void promise6Purse() {
        ArmTolls x = Check.armWithPurse(3);
        Check.due("go(0, 10) with 3", x.go(0, 10), 3);
        Check.axisIs(x, 0, 3, 3);
        Check.due("go(0, 3) with 0", x.go(0, 3), 0);
        Check.refuses(x, "go(0, 4) with 0", Check.STATE, y -> y.go(0, 4));
        Check.refuses(x, "go(0, 2) with 0", Check.STATE, y -> y.go(0, 2));
        x.earn(1);
        Check.due("go(0, 4) with 1 of 1", x.go(0, 4), 1);
    }

    private static void promise6Wrong() {
        ArmTolls x = new ArmTolls();
        ArmTolls poor = Check.armWithPurse(0);
        for (int wrong : new int[] {-1, 24, Integer.MIN_VALUE, Integer.MAX_VALUE}) {
            Check.refuses(x, "go(0, " + wrong + ")", Check.ARGUMENT, y -> y.go(0, wrong));
            Check.refuses(poor, "go(0, " + wrong + ") with 0", Check.ARGUMENT, y -> y.go(0, wrong));
            Check.refuses(x, "go(-1, " + wrong + ")", Check.INDEX, y -> y.go(-1, wrong));
        }
        for (int wrong : new int[] {-1, 4, Integer.MIN_VALUE, Integer.MAX_VALUE}) {
            Check.refuses(x, "go(" + wrong + ", 0)", Check.INDEX, y -> y.go(wrong, 0));
            Check.refuses(poor, "go(" + wrong + ", 1) with 0", Check.INDEX, y -> y.go(wrong, 1));
        }
    }

    private static void promise7Ordinary() {
        ArmTolls x = new ArmTolls();
        Check.due("home(0) at the place 0", x.home(0), 0);
        Check.axisIs(x, 0, 0, 0, 0, 0, 0, 0, 0, 0, 0, 0, 0, 1);
        x.step(0, 5);
        x.load(0, 2);
        Check.due("home(0) from 5", x.home(0), 5);
        Check.axisIs(x, 0, 0, 0, 2, 0, 0, 0, 10, 0, 20, 0, 1, 2);
        Check.due("count(0)", x.count(0), 980);
        x.step(0, -1);
        Check.due("home(0) from 23", x.home(0), 23);
        Check.due("axis(0, 10), no turn by a homed way", x.axis(0, 10), 1);
        x.step(0, 1);
        Check.due("axis(0, 10), no turn after homing", x.axis(0, 10), 1);
        Check.undoable(new ArmTolls(), "home(0) without a step", y -> y.home(0));
        Check.undoable(x, "home(0)", y -> y.home(0));
    }

    private static void promise7Slip() {
        ArmTolls x = armWithAWornTooth();
        x.step(0, 1);
        Check.axisIs(x, 0, 0, 1, 0, 1, 2);
        Check.due("home(0) at the place 0, though it believes another", x.home(0), 0);
        Check.axisIs(x, 0, 0, 0, 0, 0, 0, 0, 3, 1, 9, 0, 2, 1);

        ArmTolls y = new ArmTolls();
        y.set(0, 20);
        y.step(0, 24);
        y.step(0, 24);
        y.set(0, 0);
        y.step(0, 2);
        Check.due("home(0) from 2 with a slip", y.home(0), 3);
        Check.axisIs(y, 0, 0, 0, 0, 0, 0, 0, 53, 1, 24 + 72 + 10 + 15, 0, 1, 1);
        y.step(0, 23);
        Check.due("home(0) from 23 with a slip", y.home(0), 24);
        Check.axisIs(y, 0, 0, 0, 0, 0, 0, 0, 100, 2);
    }

    private static void promise7Purse() {
        ArmTolls x = Check.armWithPurse(7);
        x.step(0, 5);
        Check.due("home(0) with 2", x.home(0), ArmTolls.NONE);
        Check.axisIs(x, 0, 3, 3, 0, -1, 1, 0, 7, 0, 7, 0, 1, 0);
        Check.due("home(0) with 0", x.home(0), ArmTolls.NONE);
        Check.axisIs(x, 0, 3, 3, 0, -1, 1, 0, 7, 0, 7, 0, 1, 0);
        Check.due("home(1) with 0, at the place 0", x.home(1), 0);
        x.earn(3);
        Check.undoable(x, "home(0) with 3", y -> y.home(0));
        Check.due("home(0) with 3", x.home(0), 3);
        Check.due("count(0)", x.count(0), 0);
    }

    private static void promise7Wrong() {
        ArmTolls x = new ArmTolls();
        for (int wrong : new int[] {-1, 4, Integer.MIN_VALUE, Integer.MAX_VALUE}) {
            Check.refuses(x, "home(" + wrong + ")", Check.INDEX, y -> y.home(wrong));
        }
    }
}
