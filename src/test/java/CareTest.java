/** Promises 8 and 9: grease, mend. */
public final class CareTest {
    public static void main(String[] args) {
        promise8Ordinary();
        promise8Wrong();
        promise9Ordinary();
        promise9Wrong();
        Check.end("CareTest");
    }

    private static void promise8Ordinary() {
        ArmTolls x = new ArmTolls();
        Check.due("grease(0)", x.grease(0), 985);
        Check.due("axis(0, 5)", x.axis(0, 5), 12);
        Check.due("axis(1, 5)", x.axis(1, 5), 0);
        x.step(0, 5);
        Check.due("axis(0, 5)", x.axis(0, 5), 7);
        Check.due("grease(0) once more", x.grease(0), 965);
        Check.due("axis(0, 5)", x.axis(0, 5), 12);
        Check.due("count(4)", x.count(4), 30);
        x.set(4, 100);
        x.set(5, 0);
        Check.due("grease(3) for 0", x.grease(3), 965);
        Check.due("axis(3, 5)", x.axis(3, 5), 100);
        x.set(4, 0);
        Check.due("grease(3) to 0", x.grease(3), 965);
        Check.due("axis(3, 5)", x.axis(3, 5), 0);
        Check.due("count(4)", x.count(4), 30);
        Check.undoable(x, "grease(3)", y -> y.grease(3));
        Check.undoable(new ArmTolls(), "grease(2)", y -> y.grease(2));
    }

    private static void promise8Wrong() {
        ArmTolls x = Check.armWithPurse(15);
        Check.due("grease(1) with 15 of 15", x.grease(1), 0);
        Check.refuses(x, "grease(1) with 0", Check.STATE, y -> y.grease(1));
        x.earn(14);
        Check.refuses(x, "grease(1) with 14 of 15", Check.STATE, y -> y.grease(1));
        for (int wrong : new int[] {-1, 4, Integer.MIN_VALUE, Integer.MAX_VALUE}) {
            Check.refuses(x, "grease(" + wrong + ")", Check.INDEX, y -> y.grease(wrong));
        }
    }

    private static void promise9Ordinary() {
        ArmTolls x = new ArmTolls();
        x.step(0, 24);
        x.step(0, 24);
        Check.due("mend(0, 7)", x.mend(0, 7), 6);
        Check.due("wear(0, 7)", x.wear(0, 7), 0);
        Check.due("wear(0, 6)", x.wear(0, 6), 6);
        Check.due("count(0)", x.count(0), 1000 - 48 - 6);
        Check.due("mend(0, 7) once more", x.mend(0, 7), 0);
        x.set(3, 20);
        Check.due("mend(0, 23)", x.mend(0, 23), 120);
        Check.due("count(4)", x.count(4), 126);
        Check.due("mend(3, 0) without wear", x.mend(3, 0), 0);
        x.set(3, 0);
        Check.due("mend(0, 0) for 0", x.mend(0, 0), 0);
        Check.due("wear(0, 0)", x.wear(0, 0), 0);
        Check.undoable(x, "mend(0, 0)", y -> y.mend(0, 0));
        x.set(3, 2);
        Check.undoable(x, "mend(0, 1)", y -> y.mend(0, 1));
    }

    private static void promise9Wrong() {
        ArmTolls x = Check.armWithPurse(3);
        x.step(0, 1);
        Check.refuses(x, "mend(0, 0) with 2 of 3", Check.STATE, y -> y.mend(0, 0));
        Check.due("mend(0, 1) for 0 with 2", x.mend(0, 1), 0);
        for (int wrong : new int[] {-1, 24, Integer.MIN_VALUE, Integer.MAX_VALUE}) {
            Check.refuses(x, "mend(0, " + wrong + ")", Check.INDEX, y -> y.mend(0, wrong));
        }
        for (int wrong : new int[] {-1, 4, Integer.MIN_VALUE, Integer.MAX_VALUE}) {
            Check.refuses(x, "mend(" + wrong + ", 0)", Check.INDEX, y -> y.mend(wrong, 0));
        }
        x.earn(1);
        Check.due("mend(0, 0) with 3 of 3", x.mend(0, 0), 3);
        Check.due("count(0)", x.count(0), 0);
    }
}
