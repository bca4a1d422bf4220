/** Promises 2 to 4: earn, load, set. */
public final class PurseTest {
    public static void main(String[] args) {
        promise2Earn();
        promise3Load();
        promise4Set();
        Check.end("PurseTest");
    }

    private static void promise2Earn() {
        ArmTolls x = new ArmTolls();
        Check.due("earn(1)", x.earn(1), 1001);
        Check.due("earn(10000)", x.earn(10000), 11001);
        Check.due("count(0)", x.count(0), 11001);
        Check.undoable(x, "earn(5)", y -> y.earn(5));
        for (int wrong : new int[] {0, -1, 10001, Integer.MIN_VALUE, Integer.MAX_VALUE}) {
            Check.refuses(x, "earn(" + wrong + ")", Check.ARGUMENT, y -> y.earn(wrong));
        }
        for (int i = 0; i < 8; i++) {
            x.earn(10000);
        }
        Check.refuses(x, "earn(9000) with 91001", Check.STATE, y -> y.earn(9000));
        Check.due("earn(8999) with 91001", x.earn(8999), 100000);
        Check.refuses(x, "earn(1) with 100000", Check.STATE, y -> y.earn(1));
        Check.refuses(x, "earn(10001) with 100000", Check.ARGUMENT, y -> y.earn(10001));
    }

    private static void promise3Load() {
        ArmTolls x = new ArmTolls();
        Check.due("load(0, 5)", x.load(0, 5), 0);
        Check.due("load(0, 2)", x.load(0, 2), 5);
        Check.due("load(3, 1)", x.load(3, 1), 0);
        Check.due("axis(0, 2)", x.axis(0, 2), 2);
        Check.due("axis(1, 2)", x.axis(1, 2), 0);
        Check.due("load(0, 0)", x.load(0, 0), 2);
        Check.undoable(x, "load(0, 0)", y -> y.load(0, 0));
        Check.undoable(x, "load(2, 4)", y -> y.load(2, 4));
        for (int wrong : new int[] {-1, 6, Integer.MIN_VALUE, Integer.MAX_VALUE}) {
            Check.refuses(x, "load(0, " + wrong + ")", Check.ARGUMENT, y -> y.load(0, wrong));
        }
        for (int wrong : new int[] {-1, 4, Integer.MIN_VALUE, Integer.MAX_VALUE}) {
            Check.refuses(x, "load(" + wrong + ", 0)", Check.INDEX, y -> y.load(wrong, 0));
            Check.refuses(x, "load(" + wrong + ", 6)", Check.INDEX, y -> y.load(wrong, 6));
        }
    }

    private static void promise4Set() {
        ArmTolls x = new ArmTolls();
        int[] first = {3, 10, 40, 1, 12, 15};
        int[] least = {0, 1, 1, 0, 0, 0};
        int[] most = {20, 50, 99, 20, 100, 200};
        for (int i = 0; i < 6; i++) {
            int setting = i;
            Check.due("set(" + setting + ", least)", x.set(setting, least[setting]), first[setting]);
            Check.due("setting(" + setting + ")", x.setting(setting), least[setting]);
            Check.due("set(" + setting + ", most)", x.set(setting, most[setting]), least[setting]);
            Check.due("setting(" + setting + ")", x.setting(setting), most[setting]);
            Check.refuses(x, "set(" + setting + ", least - 1)", Check.ARGUMENT, y -> y.set(setting, least[setting] - 1));
            Check.refuses(x, "set(" + setting + ", most + 1)", Check.ARGUMENT, y -> y.set(setting, most[setting] + 1));
            Check.refuses(x, "set(" + setting + ", MIN)", Check.ARGUMENT, y -> y.set(setting, Integer.MIN_VALUE));
            Check.refuses(x, "set(" + setting + ", MAX)", Check.ARGUMENT, y -> y.set(setting, Integer.MAX_VALUE));
        }
        for (int setting = 0; setting < 6; setting++) {
            Check.due("setting(" + setting + ") at the end", x.setting(setting), most[setting]);
        }
        Check.undoable(new ArmTolls(), "set(2, 40)", y -> y.set(2, 40));
        for (int i = 0; i < 6; i++) {
            int setting = i;
            Check.undoable(new ArmTolls(), "set(" + setting + ", 7)", y -> y.set(setting, 7));
        }
        for (int wrong : new int[] {-1, 6, Integer.MIN_VALUE, Integer.MAX_VALUE}) {
            Check.refuses(x, "set(" + wrong + ", 5)", Check.INDEX, y -> y.set(wrong, 5));
            Check.refuses(x, "set(" + wrong + ", -1)", Check.INDEX, y -> y.set(wrong, -1));
        }
    }
}
