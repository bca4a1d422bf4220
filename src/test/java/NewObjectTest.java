/** Promise 1 and the constant. */
public final class NewObjectTest {
    public static void main(String[] args) {
        Check.due("NONE", ArmTolls.NONE, -1);
        allIsAtFirst();
        Check.end("NewObjectTest");
    }

    private static void allIsAtFirst() {
        ArmTolls x = new ArmTolls();
        int[] counts = {1000, 0, 0, 0, 0, 0, 0, 4, 0};
        for (int what = 0; what < counts.length; what++) {
            Check.due("count(" + what + ")", x.count(what), counts[what]);
        }
        int[] settings = {3, 10, 40, 1, 12, 15};
        for (int setting = 0; setting < settings.length; setting++) {
            Check.due("setting(" + setting + ")", x.setting(setting), settings[setting]);
        }
        for (int axis = 0; axis < 4; axis++) {
            Check.axisIs(x, axis, 0, 0, 0, 0, 0, 0, 0, 0, 0, 0, 0, 0);
            for (int tooth = 0; tooth < 24; tooth++) {
                Check.due("wear(" + axis + ", " + tooth + ")", x.wear(axis, tooth), 0);
            }
        }
        Check.due("firstError()", x.firstError(), 0);
        Check.due("clearBuffer()", x.clearBuffer(), 0);
        Check.refuses(x, "undo()", Check.STATE, y -> y.undo());
    }
}
