/** The edges of promises 26 and 27: meanToll, digest. */
public final class DigestEdgesTest {
    private static final String VALUES = "The values are: count(0) to count(8); the settings 0 to 5; for each axis its "
        + "properties 0 to 11, the wear of its teeth 0 to 23, toll with true and with false, slips with true and with false, "
        + "cost of the place 12 with true and with false, ifHomed with 0 to 2, reach with true and with false, couldBe, and "
        + "worst for the place 12; the bits of meanToll (as Double.doubleToLongBits); the length of the buffer and each of "
        + "its character codes.";

    public static void main(String[] args) {
        Edges.run(DigestEdgesTest.class);
    }

    private static void meanIs(ArmTolls x, double want) {
        Check.due("bits of meanToll()", Double.doubleToLongBits(x.meanToll()), Double.doubleToLongBits(want));
    }

    // ---- promise 26

    @Edge("Returns the toll of a step on the mean.")
    static void promise26_itIs1AtLeastAnd105AtMost() {
        ArmTolls x = new ArmTolls();
        x.step(0, 24);
        meanIs(x, 1.0);
        ArmTolls y = Arms.worn(0, 98);
        y.set(0, 1);
        y.step(0, 1);
        y.set(1, 1);
        y.load(0, 5);
        int steps = y.count(1);
        int tolls = y.count(2);
        y.step(0, -1);
        meanIs(y, (tolls + 105) / (double) (steps + 1));
    }

    @Edge("Returns count(2), as a double, divided by count(1);")
    static void promise26_itIsNotRoundedDown() {
        ArmTolls x = new ArmTolls();
        x.step(0, 2);
        x.load(0, 1);
        x.step(0, 1);
        meanIs(x, 4.0 / 3.0);
        x.load(1, 5);
        x.step(1, 4);
        meanIs(x, 28.0 / 7.0);
    }

    @Edge("Returns count(2), as a double, divided by count(1);")
    static void promise26_whatCareCostsDoesNotCount() {
        ArmTolls x = new ArmTolls();
        x.step(0, 1);
        x.grease(1);
        x.mend(0, 0);
        meanIs(x, 1.0);
    }

    @Edge("0.0 if that is 0.")
    static void promise26_withoutAStepItIs0() {
        ArmTolls x = new ArmTolls();
        meanIs(x, 0.0);
        x.grease(0);
        x.home(0);
        meanIs(x, 0.0);
        x.step(0, 1);
        x.undo();
        meanIs(x, 0.0);
    }

    // ---- promise 27

    private static void digestIsTheHash(ArmTolls x, String buffer) {
        long due = DigestTest.hashOf(x, buffer);
        Check.due("digest()", x.digest(), due);
        Check.due("digest() once more", x.digest(), due);
    }

    @Edge("Computes a hash of the whole state.")
    static void promise27_itTellsStatesApart() {
        ArmTolls x = new ArmTolls();
        long before = x.digest();
        x.append('a');
        Check.due("whether it is the same with a buffer", x.digest() == before ? 1 : 0, 0);
        x.clearBuffer();
        Check.due("digest() of the first state", x.digest(), before);
        x.load(3, 0);
        Check.due("whether it is the same with a saved state", x.digest() == before ? 1 : 0, 0);
        x.undo();
        Check.due("digest() of the first state", x.digest(), before);
    }

    @Edge("The hash starts at 2417.")
    static void promise27_aNewArm() {
        digestIsTheHash(new ArmTolls(), "");
    }

    @Edge("For each value v of the following list, in order, the hash becomes 31 * hash + v, in long arithmetic with overflow.")
    static void promise27_valuesBelow0CountAsTheyAre() {
        ArmTolls x = new ArmTolls();
        x.step(0, -1);
        Check.due("axis(0, 3)", x.axis(0, 3), -1);
        Check.due("worst(0, 12)", x.worst(0, 12), ArmTolls.NONE);
        digestIsTheHash(x, "");
    }

    @Edge(VALUES)
    static void promise27_eachAxisInAStateOfItsOwn() {
        ArmTolls x = Arms.slipped();
        x.load(1, 5);
        x.set(0, 20);
        x.step(1, 24);
        x.step(1, -24);
        x.step(2, -7);
        x.grease(2);
        x.home(3);
        x.step(3, 9);
        digestIsTheHash(x, "");
        x.set(0, 1);
        x.set(1, 2);
        x.set(2, 4);
        x.set(3, 5);
        x.set(4, 6);
        x.set(5, 7);
        digestIsTheHash(x, "");
    }

    @Edge(VALUES)
    static void promise27_anEmptyAndAFullPurse() {
        digestIsTheHash(Check.armWithPurse(0), "");
        digestIsTheHash(Arms.rich(100000), "");
    }

    @Edge("the bits of meanToll (as Double.doubleToLongBits);")
    static void promise27_theBitsOfMeanTollsThatAreNotWhole() {
        ArmTolls x = Arms.unwearing();
        for (int load = 0; load <= 5; load++) {
            x.load(load % 4, load);
            x.step(load % 4, 1 + 2 * load);
            digestIsTheHash(x, "");
        }
    }

    @Edge(VALUES)
    static void promise27_anAxisThatReachesFartherDownThanUp() {
        ArmTolls x = Check.spentTo(4, Arms.worn(0, 40));
        Check.due("reach(0, true)", x.reach(0, true), 0);
        Check.due("reach(0, false)", x.reach(0, false), 4);
        digestIsTheHash(x, "");
    }

    @Edge("the bits of meanToll (as Double.doubleToLongBits);")
    static void promise27_theBitsOfMeanTollsOf1And2And4() {
        int[] loads = {0, 1, 3};
        for (int load : loads) {
            ArmTolls x = new ArmTolls();
            x.load(0, load);
            x.step(0, 1);
            Check.due("whole of meanToll()", (long) x.meanToll(), 1 + load);
            digestIsTheHash(x, "");
        }
    }

    @Edge("the bits of meanToll (as Double.doubleToLongBits);")
    static void promise27_theBitsOfAMeanTollOf0() {
        ArmTolls x = new ArmTolls();
        x.grease(0);
        digestIsTheHash(x, "");
    }

    @Edge("the bits of meanToll (as Double.doubleToLongBits);")
    static void promise27_theBitsOfGreatMeanTolls() {
        ArmTolls x = Arms.rich(40000);
        x.set(0, 20);
        x.set(1, 1);
        x.set(2, 99);
        for (int round = 1; round <= 12; round++) {
            x.step(0, 24);
            digestIsTheHash(x, "");
        }
        x.load(0, 5);
        x.step(0, 24);
        Check.due("whether the mean toll is above 64", x.meanToll() > 64 ? 1 : 0, 1);
        digestIsTheHash(x, "");
    }

    @Edge("the length of the buffer and each of its character codes.")
    static void promise27_anEmptyAClearedAndAFullBuffer() {
        ArmTolls x = new ArmTolls();
        x.append('!');
        digestIsTheHash(x, "!");
        String full = "!~".repeat(30);
        Check.type(x, full.substring(1));
        digestIsTheHash(x, full);
        x.clearBuffer();
        digestIsTheHash(x, "");
        x.append('~');
        digestIsTheHash(x, "~");
    }

    @Edge("Returns the hash.")
    static void promise27_armsWithTheSameCallsHaveTheSameHash() {
        ArmTolls one = Arms.slipped();
        ArmTolls other = Arms.slipped();
        Check.due("digest() of the other arm", other.digest(), one.digest());
        one.step(0, 1);
        other.step(0, 1);
        Check.due("digest() of the other arm after a step", other.digest(), one.digest());
        digestIsTheHash(one, "");
    }
}
