import java.util.LinkedHashMap;
import java.util.Map;

/** Arms in the states that edges need, the numbers beside a range, and all calls of a kind. */
final class Arms {
    /** The calls that take an axis, each with what else it takes in range. */
    static final Map<String, Check.OnNumber> OF_AN_AXIS = new LinkedHashMap<>();

    /** The calls that are marked "undoable", each in a form that a new arm does not refuse. */
    static final Map<String, Check.Call> UNDOABLE = new LinkedHashMap<>();

    static {
        OF_AN_AXIS.put("load(n, 1)", (x, n) -> x.load(n, 1));
        OF_AN_AXIS.put("step(n, 1)", (x, n) -> x.step(n, 1));
        OF_AN_AXIS.put("go(n, 1)", (x, n) -> x.go(n, 1));
        OF_AN_AXIS.put("home(n)", (x, n) -> x.home(n));
        OF_AN_AXIS.put("grease(n)", (x, n) -> x.grease(n));
        OF_AN_AXIS.put("mend(n, 0)", (x, n) -> x.mend(n, 0));
        OF_AN_AXIS.put("axis(n, 0)", (x, n) -> x.axis(n, 0));
        OF_AN_AXIS.put("wear(n, 0)", (x, n) -> x.wear(n, 0));
        OF_AN_AXIS.put("toll(n, true)", (x, n) -> x.toll(n, true));
        OF_AN_AXIS.put("slips(n, true)", (x, n) -> x.slips(n, true));
        OF_AN_AXIS.put("cost(n, 1, true)", (x, n) -> x.cost(n, 1, true));
        OF_AN_AXIS.put("ifHomed(n, 0)", (x, n) -> x.ifHomed(n, 0));
        OF_AN_AXIS.put("reach(n, true)", (x, n) -> x.reach(n, true));
        OF_AN_AXIS.put("couldBe(n)", (x, n) -> x.couldBe(n));
        OF_AN_AXIS.put("worst(n, 1)", (x, n) -> x.worst(n, 1));

        UNDOABLE.put("earn(5)", x -> x.earn(5));
        UNDOABLE.put("load(1, 4)", x -> x.load(1, 4));
        UNDOABLE.put("set(0, 7)", x -> x.set(0, 7));
        UNDOABLE.put("step(2, -9)", x -> x.step(2, -9));
        UNDOABLE.put("go(3, 20)", x -> x.go(3, 20));
        UNDOABLE.put("home(0)", x -> x.home(0));
        UNDOABLE.put("grease(1)", x -> x.grease(1));
        UNDOABLE.put("mend(1, 0)", x -> x.mend(1, 0));
        UNDOABLE.put("run() of a+3;bg", x -> typedAndRun(x, "a+3;bg"));
    }

    private Arms() {
    }

    static long typedAndRun(ArmTolls x, String text) {
        x.clearBuffer();
        Check.type(x, text);
        return x.run();
    }

    static ArmTolls withText(String text) {
        ArmTolls x = new ArmTolls();
        Check.type(x, text);
        return x;
    }

    static int[] below(int least) {
        return new int[] {least - 1, least - 1000, Integer.MIN_VALUE};
    }

    static int[] above(int most) {
        return new int[] {most + 1, most + 1000000, Integer.MAX_VALUE};
    }

    /** A new arm refuses the numbers beside a range. */
    static void refusesOutside(int least, int most, String call, Class<? extends RuntimeException> want,
            Check.OnNumber run) {
        ArmTolls x = new ArmTolls();
        Check.refusesEach(x, call, want, below(least), run);
        Check.refusesEach(x, call, want, above(most), run);
    }

    /** An arm with at least 1000 in its purse. */
    static ArmTolls rich(int purse) {
        ArmTolls x = new ArmTolls();
        while (x.count(0) < purse) {
            x.earn(Math.min(10000, purse - x.count(0)));
        }
        return x;
    }

    /** Steps wear nothing here. */
    static ArmTolls unwearing() {
        ArmTolls x = new ArmTolls();
        x.set(0, 0);
        return x;
    }

    /** The axis 0 has a tooth with this wear (at most 98), and was homed at the place 0; steps wear nothing then. */
    static ArmTolls worn(int tooth, int wear) {
        return wornToo(unwearing(), tooth, wear);
    }

    /** The same for one more tooth. */
    static ArmTolls wornToo(ArmTolls x, int tooth, int wear) {
        int wearPerToll = x.setting(1);
        int wearThatSlips = x.setting(2);
        x.set(1, 50);
        x.set(2, 99);
        if (tooth > 0) {
            x.step(0, tooth);
        }
        int way = 1;
        for (int left = wear; left > 0; left -= 20) {
            x.set(0, Math.min(left, 20));
            x.step(0, way);
            way = -way;
        }
        x.set(0, 0);
        x.home(0);
        x.set(1, wearPerToll);
        x.set(2, wearThatSlips);
        Check.due("wear(0, " + tooth + ") made ready", x.wear(0, tooth), wear);
        return x;
    }

    /** The axis 0 is at the place 1 and believes to be at 0, by a slip down at the tooth 0 with a wear of 40. */
    static ArmTolls slipped() {
        ArmTolls x = worn(0, 40);
        x.step(0, 1);
        x.step(0, -1);
        Check.axisIs(x, 0, 1, 0, 0, -1, 1);
        return x;
    }

    /** All that undo brings back, as a text. */
    static String seen(ArmTolls x) {
        StringBuilder all = new StringBuilder();
        for (int what = 0; what <= 7; what++) {
            all.append(x.count(what)).append(' ');
        }
        for (int setting = 0; setting <= 5; setting++) {
            all.append(x.setting(setting)).append(' ');
        }
        for (int axis = 0; axis <= 3; axis++) {
            for (int what = 0; what <= 11; what++) {
                all.append(x.axis(axis, what)).append(' ');
            }
            for (int tooth = 0; tooth <= 23; tooth++) {
                all.append(x.wear(axis, tooth)).append(' ');
            }
        }
        return all.toString();
    }

    /** The call saves one state, and undo brings all back that it changed. */
    static void undoBringsBack(ArmTolls x, String call, Check.Call run) {
        String before = seen(x);
        int saved = x.count(8);
        run.answer(x);
        Check.due("count(8) after " + call, x.count(8), Math.min(saved + 1, 6));
        x.undo();
        Check.dueText("all after undo() of " + call, seen(x), before);
    }
}
