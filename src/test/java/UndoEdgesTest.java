import java.util.Map;

/** The edges of the terms "Undo" and "Exceptions", and of promise 14: undo. */
public final class UndoEdgesTest {
    private static final String SAVES = "Each method that is marked 'undoable' and does not throw an exception saves the state "
        + "from before it (also if it changes nothing): all, also what is counted so far, but the buffer and the saved states.";
    private static final String SIX = "At most 6 states are saved; the oldest one is dropped first.";
    private static final String CHANGES_NOTHING = "A call that throws an exception changes nothing.";
    private static final String FIRST_NAMED =
        "If several exceptions apply, the one that is named first in the throws clause is thrown.";

    public static void main(String[] args) {
        Edges.run(UndoEdgesTest.class);
    }

    // ---- undo

    @Edge(SAVES)
    static void undo_eachUndoableCallSavesTheStateFromBeforeIt() {
        for (Map.Entry<String, Check.Call> call : Arms.UNDOABLE.entrySet()) {
            Arms.undoBringsBack(new ArmTolls(), call.getKey(), call.getValue());
            ArmTolls x = Arms.slipped();
            x.load(1, 1);
            x.step(1, 4);
            Arms.undoBringsBack(x, call.getKey(), call.getValue());
        }
    }

    @Edge(SAVES)
    static void undo_aCallThatChangesNothingSavesAStateToo() {
        ArmTolls x = new ArmTolls();
        x.load(0, 0);
        x.set(0, 3);
        x.go(0, 0);
        x.mend(0, 0);
        Check.due("count(8)", x.count(8), 4);
        Arms.typedAndRun(x, "a=0");
        Check.due("count(8)", x.count(8), 5);
        Check.dueText("all", Arms.seen(x), Arms.seen(new ArmTolls()));
        x.home(0);
        Check.due("count(8)", x.count(8), 6);
    }

    @Edge(SAVES)
    static void undo_aCallThatIsNotUndoableSavesNone() {
        ArmTolls x = Arms.withText("ah");
        x.firstError();
        x.clearBuffer();
        for (Map.Entry<String, Check.OnNumber> call : Arms.OF_AN_AXIS.entrySet()) {
            if (!call.getKey().matches("(load|step|go|home|grease|mend)\\(.*")) {
                call.getValue().answer(x, 0);
            }
        }
        x.count(0);
        x.setting(0);
        x.meanToll();
        x.digest();
        Check.due("count(8)", x.count(8), 0);
    }

    @Edge("and does not throw an exception")
    static void undo_aCallThatThrowsSavesNone() {
        ArmTolls x = new ArmTolls();
        x.earn(1);
        Check.refuses(x, "earn(0)", Check.ARGUMENT, y -> y.earn(0));
        Check.refuses(x, "step(0, 25)", Check.ARGUMENT, y -> y.step(0, 25));
        Check.refuses(x, "run()", Check.ARGUMENT, y -> y.run());
        Check.due("count(8)", x.count(8), 1);
        Check.due("undo()", x.undo(), 0);
        Check.due("count(0)", x.count(0), 1000);
    }

    @Edge("all, also what is counted so far,")
    static void undo_whatIsCountedComesBack() {
        ArmTolls x = Arms.slipped();
        int[] before = counts(x);
        x.set(2, 1);
        x.set(0, 20);
        x.step(0, 5);
        x.grease(0);
        x.step(0, -2);
        x.home(0);
        int[] between = counts(x);
        for (int i = 0; i < 6; i++) {
            x.undo();
        }
        int[] after = counts(x);
        for (int i = 0; i < before.length; i++) {
            Check.due("whether it is more, the number " + i, between[i] > before[i] ? 1 : 0, 1);
            Check.due("what is counted, the number " + i, after[i], before[i]);
        }
    }

    /** Steps, tolls, slips, care costs, and of the axis 0 steps, slips, tolls, turns and homings. */
    private static int[] counts(ArmTolls x) {
        return new int[] {x.count(1), x.count(2), x.count(3), x.count(4),
            x.axis(0, 6), x.axis(0, 7), x.axis(0, 8), x.axis(0, 10), x.axis(0, 11)};
    }

    @Edge("but the buffer and the saved states.")
    static void undo_theBufferStays() {
        ArmTolls x = Arms.withText("ah");
        x.earn(1);
        Check.type(x, ";b");
        x.undo();
        Check.due("clearBuffer() after undo()", x.clearBuffer(), 4);
        x.earn(1);
        Check.type(x, "ag");
        x.undo();
        Check.due("run() of ag", x.run(), 1);
    }

    @Edge("but the buffer and the saved states.")
    static void undo_theBufferStaysEmptyAfterUndoOfRun() {
        ArmTolls x = Arms.withText("ah");
        x.run();
        x.undo();
        Check.due("clearBuffer()", x.clearBuffer(), 0);
    }

    @Edge("but the buffer and the saved states.")
    static void undo_theSavedStatesDoNotComeBack() {
        ArmTolls x = new ArmTolls();
        x.earn(1);
        x.earn(2);
        x.undo();
        Check.due("count(8)", x.count(8), 1);
        x.earn(4);
        Check.due("count(8)", x.count(8), 2);
        x.undo();
        x.undo();
        Check.due("count(0)", x.count(0), 1000);
    }

    @Edge(SIX)
    static void undo_6StatesAreSaved() {
        ArmTolls x = new ArmTolls();
        for (int i = 1; i <= 6; i++) {
            x.earn(i);
            Check.due("count(8)", x.count(8), i);
        }
        for (int left = 5; left >= 0; left--) {
            Check.due("undo()", x.undo(), left);
        }
        Check.due("count(0)", x.count(0), 1000);
    }

    @Edge(SIX)
    static void undo_theState7DropsTheOldestOne() {
        ArmTolls x = new ArmTolls();
        for (int i = 1; i <= 7; i++) {
            x.earn(i);
        }
        Check.due("count(8)", x.count(8), 6);
        int[] purses = {1021, 1015, 1010, 1006, 1003, 1001};
        for (int purse : purses) {
            x.undo();
            Check.due("count(0)", x.count(0), purse);
        }
        Check.refuses(x, "undo() of the dropped state", Check.STATE, y -> y.undo());
    }

    @Edge(SIX)
    static void undo_manyMoreThan6StatesDropTheOldestOnesAgainAndAgain() {
        ArmTolls x = new ArmTolls();
        for (int i = 1; i <= 100; i++) {
            x.earn(1);
        }
        for (int left = 5; left >= 0; left--) {
            Check.due("undo()", x.undo(), left);
            Check.due("count(0)", x.count(0), 1100 - 6 + left);
        }
    }

    // ---- exceptions

    @Edge(CHANGES_NOTHING)
    static void exceptions_aRefusedCallLeavesEachSavedStateToo() {
        ArmTolls x = new ArmTolls();
        for (int i = 1; i <= 6; i++) {
            x.earn(i);
        }
        for (Map.Entry<String, Check.OnNumber> call : Arms.OF_AN_AXIS.entrySet()) {
            Check.refuses(x, call.getKey() + " with n = 4", Check.INDEX, y -> call.getValue().answer(y, 4));
        }
        Check.refuses(x, "earn(0)", Check.ARGUMENT, y -> y.earn(0));
        Check.refuses(x, "set(6, 0)", Check.INDEX, y -> y.set(6, 0));
        Check.refuses(x, "set(0, 21)", Check.ARGUMENT, y -> y.set(0, 21));
        Check.refuses(x, "load(0, 6)", Check.ARGUMENT, y -> y.load(0, 6));
        Check.refuses(x, "step(0, 0)", Check.ARGUMENT, y -> y.step(0, 0));
        Check.refuses(x, "go(0, 24)", Check.ARGUMENT, y -> y.go(0, 24));
        Check.refuses(x, "mend(0, 24)", Check.INDEX, y -> y.mend(0, 24));
        Check.refuses(x, "append(32)", Check.ARGUMENT, y -> y.append(32));
        Check.refuses(x, "run()", Check.ARGUMENT, y -> y.run());
        int[] purses = {1015, 1010, 1006, 1003, 1001, 1000};
        for (int purse : purses) {
            x.undo();
            Check.due("count(0)", x.count(0), purse);
        }
    }

    @Edge(CHANGES_NOTHING)
    static void exceptions_aCallRefusedForThePurseLeavesAll() {
        ArmTolls x = Check.spentTo(0, Arms.slipped());
        Check.type(x, "a+1");
        String before = Arms.seen(x);
        Check.refuses(x, "step(0, 1) with 0", Check.STATE, y -> y.step(0, 1));
        Check.refuses(x, "go(0, 2) with 0", Check.STATE, y -> y.go(0, 2));
        Check.refuses(x, "grease(0) with 0", Check.STATE, y -> y.grease(0));
        Check.refuses(x, "mend(0, 0) with 0", Check.STATE, y -> y.mend(0, 0));
        Check.dueText("all", Arms.seen(x), before);
        Check.due("clearBuffer()", x.clearBuffer(), 3);
    }

    @Edge(FIRST_NAMED)
    static void exceptions_earnNamesTheArgumentAheadOfThePurse() {
        Check.refuses(Arms.rich(100000), "earn(10001) with 100000", Check.ARGUMENT, x -> x.earn(10001));
        Check.refuses(Arms.rich(100000), "earn(MAX) with 100000", Check.ARGUMENT, x -> x.earn(Integer.MAX_VALUE));
    }

    @Edge(FIRST_NAMED)
    static void exceptions_loadNamesTheAxisAheadOfTheLoad() {
        Check.refuses(new ArmTolls(), "load(4, 6)", Check.INDEX, x -> x.load(4, 6));
        Check.refuses(new ArmTolls(), "load(-1, -1)", Check.INDEX, x -> x.load(-1, -1));
    }

    @Edge(FIRST_NAMED)
    static void exceptions_setNamesTheSettingAheadOfTheValue() {
        Check.refuses(new ArmTolls(), "set(6, -1)", Check.INDEX, x -> x.set(6, -1));
        Check.refuses(new ArmTolls(), "set(-1, 1000)", Check.INDEX, x -> x.set(-1, 1000));
    }

    @Edge(FIRST_NAMED)
    static void exceptions_stepNamesTheAxisThenTheStepsThenThePurse() {
        ArmTolls x = Check.armWithPurse(0);
        Check.refuses(x, "step(4, 0) with 0", Check.INDEX, y -> y.step(4, 0));
        Check.refuses(x, "step(4, 1) with 0", Check.INDEX, y -> y.step(4, 1));
        Check.refuses(x, "step(0, 0) with 0", Check.ARGUMENT, y -> y.step(0, 0));
        Check.refuses(x, "step(0, 25) with 0", Check.ARGUMENT, y -> y.step(0, 25));
    }

    @Edge(FIRST_NAMED)
    static void exceptions_goNamesTheAxisThenThePlaceThenThePurse() {
        ArmTolls x = Check.armWithPurse(0);
        Check.refuses(x, "go(-1, 24) with 0", Check.INDEX, y -> y.go(-1, 24));
        Check.refuses(x, "go(4, 1) with 0", Check.INDEX, y -> y.go(4, 1));
        Check.refuses(x, "go(0, 24) with 0", Check.ARGUMENT, y -> y.go(0, 24));
        Check.refuses(x, "go(0, -1) with 0", Check.ARGUMENT, y -> y.go(0, -1));
    }

    @Edge(FIRST_NAMED)
    static void exceptions_greaseNamesTheAxisAheadOfThePurse() {
        Check.refuses(Check.armWithPurse(0), "grease(4) with 0", Check.INDEX, x -> x.grease(4));
    }

    @Edge(FIRST_NAMED)
    static void exceptions_mendNamesTheAxisAndTheToothAheadOfThePurse() {
        ArmTolls x = Check.spentTo(0, Arms.worn(0, 40));
        Check.refuses(x, "mend(4, 0) with 0", Check.INDEX, y -> y.mend(4, 0));
        Check.refuses(x, "mend(0, 24) with 0", Check.INDEX, y -> y.mend(0, 24));
        Check.refuses(x, "mend(4, 24) with 0", Check.INDEX, y -> y.mend(4, 24));
    }

    @Edge(FIRST_NAMED)
    static void exceptions_appendNamesTheCodeAheadOfTheFullBuffer() {
        ArmTolls x = Arms.withText("x".repeat(60));
        Check.refuses(x, "append(32) with 60", Check.ARGUMENT, y -> y.append(32));
        Check.refuses(x, "append(127) with 60", Check.ARGUMENT, y -> y.append(127));
    }

    @Edge(FIRST_NAMED)
    static void exceptions_questionsNameTheAxisAheadOfTheRest() {
        ArmTolls x = new ArmTolls();
        Check.refuses(x, "axis(4, 12)", Check.INDEX, y -> y.axis(4, 12));
        Check.refuses(x, "axis(-1, -1)", Check.INDEX, y -> y.axis(-1, -1));
        Check.refuses(x, "cost(4, 24, true)", Check.INDEX, y -> y.cost(4, 24, true));
        Check.refuses(x, "ifHomed(4, 3)", Check.INDEX, y -> y.ifHomed(4, 3));
        Check.refuses(x, "worst(4, 24)", Check.INDEX, y -> y.worst(4, 24));
    }

    @Edge("NONE = -1: There is nothing to return.")
    static void exceptions_noneIsMinus1() {
        Check.due("NONE", ArmTolls.NONE, -1);
    }

    // ---- promise 14

    @Edge("Restores the latest saved state, and drops it.")
    static void promise14_theLatestStateIsRestoredFirst() {
        ArmTolls x = new ArmTolls();
        x.load(0, 1);
        x.load(0, 2);
        x.load(0, 3);
        for (int load = 2; load >= 0; load--) {
            x.undo();
            Check.due("axis(0, 2)", x.axis(0, 2), load);
        }
    }

    @Edge("Restores the latest saved state, and drops it.")
    static void promise14_undoSavesNoStateItself() {
        ArmTolls x = new ArmTolls();
        x.load(0, 1);
        x.undo();
        Check.due("count(8)", x.count(8), 0);
        Check.refuses(x, "undo() of undo()", Check.STATE, y -> y.undo());
    }

    @Edge("Restores the latest saved state, and drops it.")
    static void promise14_6StatesAreSavedAgainAfterwards() {
        ArmTolls x = new ArmTolls();
        for (int i = 0; i < 6; i++) {
            x.earn(1);
        }
        for (int i = 0; i < 6; i++) {
            x.undo();
        }
        for (int i = 1; i <= 8; i++) {
            x.earn(10);
            Check.due("count(8)", x.count(8), Math.min(i, 6));
        }
        for (int left = 5; left >= 0; left--) {
            Check.due("undo()", x.undo(), left);
            Check.due("count(0)", x.count(0), 1020 + 10 * left);
        }
    }

    @Edge("Returns how many saved states are left.")
    static void promise14_theAnswerIs5AtMostAnd0AtLeast() {
        ArmTolls x = new ArmTolls();
        x.earn(1);
        Check.due("undo() of one", x.undo(), 0);
        for (int i = 0; i < 9; i++) {
            x.earn(1);
        }
        Check.due("undo() of six", x.undo(), 5);
    }

    @Edge("Throws IllegalStateException if there is none")
    static void promise14_aNewArmIsRefused() {
        Check.refuses(new ArmTolls(), "undo()", Check.STATE, x -> x.undo());
    }

    @Edge("Throws IllegalStateException if there is none")
    static void promise14_theUndo7IsRefused() {
        ArmTolls x = new ArmTolls();
        for (int i = 0; i < 10; i++) {
            x.earn(1);
        }
        for (int i = 0; i < 6; i++) {
            x.undo();
        }
        Check.refuses(x, "undo()", Check.STATE, y -> y.undo());
        Check.due("count(0)", x.count(0), 1004);
    }
}
