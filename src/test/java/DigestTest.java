/** Promise 27: digest, put together once more from the answers of the other calls. */
public final class DigestTest {
    public static void main(String[] args) {
        ArmTolls x = new ArmTolls();
        look(x, "", "of a new object");
        Check.type(x, "a+24;b=7;");
        look(x, "a+24;b=7;", "with a buffer");
        x.clearBuffer();
        x.set(0, 20);
        x.set(1, 7);
        x.set(5, 11);
        x.load(1, 5);
        x.load(3, 2);
        for (int i = 0; i < 12; i++) {
            x.step(1, i % 2 == 0 ? 3 : -2);
            look(x, "", "with tolls");
            x.step(3, -5);
            look(x, "", "with tolls");
        }
        x.grease(2);
        x.home(1);
        look(x, "", "after homing");
        x.undo();
        look(x, "", "after undo");
        wholeMeans();
        meansOfManySizes();
        Check.end("DigestTest");
    }

    private static void wholeMeans() {
        for (int load = 0; load <= 5; load++) {
            ArmTolls x = new ArmTolls();
            x.load(2, load);
            x.step(2, 1);
            look(x, "", "with a mean toll of " + x.meanToll());
            x.step(2, 3);
            look(x, "", "with a mean toll of " + x.meanToll());
        }
    }

    /** Mean tolls up to the greatest one, 105, so that each part of the bits is looked at. */
    private static void meansOfManySizes() {
        ArmTolls x = new ArmTolls();
        for (int i = 0; i < 9; i++) {
            x.earn(10000);
        }
        x.set(0, 20);
        x.set(1, 1);
        x.load(0, 5);
        for (int i = 0; i < 20; i++) {
            x.step(0, 7 + i % 18);
            look(x, "", "with a mean toll of " + x.meanToll());
        }
        x.set(0, 0);
        for (int i = 0; i < 20; i++) {
            x.step(1 + i % 3, -1 - i % 5);
            look(x, "", "with a mean toll of " + x.meanToll());
        }
    }

    private static void look(ArmTolls x, String buffer, String when) {
        long hash = hashOf(x, buffer);
        Check.due("digest() " + when, x.digest(), hash);
        Check.due("digest() once more, " + when, x.digest(), hash);
    }

    /** What digest is to answer, from the answers of the other calls. */
    static long hashOf(ArmTolls x, String buffer) {
        long hash = 2417;
        for (int what = 0; what <= 8; what++) {
            hash = 31 * hash + x.count(what);
        }
        for (int setting = 0; setting <= 5; setting++) {
            hash = 31 * hash + x.setting(setting);
        }
        for (int axis = 0; axis <= 3; axis++) {
            hash = withAxis(x, hash, axis);
        }
        hash = 31 * hash + Double.doubleToLongBits(x.meanToll());
        hash = 31 * hash + buffer.length();
        for (int i = 0; i < buffer.length(); i++) {
            hash = 31 * hash + buffer.charAt(i);
        }
        return hash;
    }

    private static long withAxis(ArmTolls x, long start, int axis) {
        long hash = start;
        for (int what = 0; what <= 11; what++) {
            hash = 31 * hash + x.axis(axis, what);
        }
        for (int tooth = 0; tooth <= 23; tooth++) {
            hash = 31 * hash + x.wear(axis, tooth);
        }
        hash = 31 * hash + x.toll(axis, true);
        hash = 31 * hash + x.toll(axis, false);
        hash = 31 * hash + x.slips(axis, true);
        hash = 31 * hash + x.slips(axis, false);
        hash = 31 * hash + x.cost(axis, 12, true);
        hash = 31 * hash + x.cost(axis, 12, false);
        for (int what = 0; what <= 2; what++) {
            hash = 31 * hash + x.ifHomed(axis, what);
        }
        hash = 31 * hash + x.reach(axis, true);
        hash = 31 * hash + x.reach(axis, false);
        hash = 31 * hash + x.couldBe(axis);
        return 31 * hash + x.worst(axis, 12);
    }
}
