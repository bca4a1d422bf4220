/**
 * A robot arm that pays a toll for each step of its own worn gears.
 * README.md says how to use it; the numbered promises stand in ../shared/DOC.md.
 */
public final class ArmTolls {
    /** There is nothing to return. */
    public static final int NONE = -1;

    private static final int AXES = 4;
    private static final int TEETH = 24;
    private static final int SETTINGS = 6;
    private static final int PROPERTIES = 12;
    private static final int COUNTS = 9;
    private static final int HOMING_FACTS = 3;

    private static final int UP = 1;
    private static final int DOWN = -1;

    private static final int MOST_WEAR = 99;
    private static final int MOST_LOAD = 5;
    private static final int MOST_SLACK = 12;
    private static final int MOST_STEPS = 24;
    private static final int MOST_HOMING_STEPS = 40;
    private static final int MOST_REACH = 100;
    private static final int FIRST_PURSE = 1000;
    private static final int MOST_PURSE = 100000;
    private static final int MOST_EARNED = 10000;
    private static final int MOST_SAVED = 6;
    private static final int MOST_CHARACTERS = 60;
    private static final int LEAST_CODE = 33;
    private static final int MOST_CODE = 126;

    private static final int DIGEST_START = 2417;
    private static final int DIGEST_PLACE = 12;

    private static final int[] LEAST_OF_SETTING = {0, 1, 1, 0, 0, 0};
    private static final int[] MOST_OF_SETTING = {20, 50, 99, 20, 100, 200};

    private final State now = new State();
    private final History history = new History();
    // What would be is tried out on this axis; one for all calls, since a run of calls has one room.
    private final Gear trial = new Gear();
    private final Reader reader = new Reader();
    private final int[] buffer = new int[MOST_CHARACTERS];
    private int length = 0;

    public ArmTolls() {
    }

    // ---- purse, loads, settings

    public int earn(int money) throws IllegalArgumentException, IllegalStateException {
        if (money < 1 || money > MOST_EARNED) {
            throw new IllegalArgumentException("money is out of range");
        }
        if (now.purse + money > MOST_PURSE) {
            throw new IllegalStateException("there would be too much in the purse");
        }
        history.save(now);
        now.purse += money;
        return now.purse;
    }

    public int load(int axis, int load) throws IndexOutOfBoundsException, IllegalArgumentException {
        Gear gear = gearOf(axis);
        if (load < 0 || load > MOST_LOAD) {
            throw new IllegalArgumentException("load is out of range");
        }
        history.save(now);
        int previous = gear.load;
        gear.load = load;
        return previous;
    }

    public int set(int setting, int value) throws IndexOutOfBoundsException, IllegalArgumentException {
        checkSetting(setting);
        if (!isValueOf(setting, value)) {
            throw new IllegalArgumentException("value is out of range");
        }
        history.save(now);
        int previous = now.rules.valueOf(setting);
        now.rules.put(setting, value);
        return previous;
    }

    // ---- steps

    public int step(int axis, int steps)
            throws IndexOutOfBoundsException, IllegalArgumentException, IllegalStateException {
        Gear gear = gearOf(axis);
        if (steps < -MOST_STEPS || steps > MOST_STEPS || steps == 0) {
            throw new IllegalArgumentException("steps is out of range or 0");
        }
        int way = wayOf(steps > 0);
        if (!canStep(gear, way)) {
            throw new IllegalStateException("the first step cannot be made");
        }
        history.save(now);
        return makeSteps(gear, way, steps > 0 ? steps : -steps);
    }

    public int go(int axis, int place)
            throws IndexOutOfBoundsException, IllegalArgumentException, IllegalStateException {
        Gear gear = gearOf(axis);
        checkPlace(place);
        if (!canGo(gear, place)) {
            throw new IllegalStateException("the first step cannot be made");
        }
        history.save(now);
        return goTo(gear, place);
    }

    public int home(int axis) throws IndexOutOfBoundsException {
        Gear gear = gearOf(axis);
        history.save(now);
        int stepsBefore = gear.steps;
        boolean isHomed = makeHomed(gear);
        return isHomed ? gear.steps - stepsBefore : NONE;
    }

    // ---- care

    public int grease(int axis) throws IndexOutOfBoundsException, IllegalStateException {
        Gear gear = gearOf(axis);
        if (!canGrease()) {
            throw new IllegalStateException("the purse has less than greasing costs");
        }
        history.save(now);
        makeGreased(gear);
        return now.purse;
    }

    public int mend(int axis, int tooth) throws IndexOutOfBoundsException, IllegalStateException {
        Gear gear = gearOf(axis);
        checkTooth(tooth);
        int price = gear.wearOf(tooth) * now.rules.mendingCost;
        if (now.purse < price) {
            throw new IllegalStateException("the purse has less than mending costs");
        }
        history.save(now);
        now.payCare(price);
        gear.setWear(tooth, 0);
        return price;
    }

    // ---- texts

    public int append(int code) throws IllegalArgumentException, IllegalStateException {
        if (code < LEAST_CODE || code > MOST_CODE) {
            throw new IllegalArgumentException("code is not 33 to 126");
        }
        if (length < 0 || length >= buffer.length) {
            throw new IllegalStateException("the buffer is full");
        }
        buffer[length] = code;
        length++;
        return length;
    }

    public int clearBuffer() {
        int before = length;
        length = 0;
        return before;
    }

    public int firstError() {
        return indexOfSyntaxError();
    }

    public int run() throws IllegalArgumentException {
        if (!isProgram()) {
            throw new IllegalArgumentException("the buffer is not a complete program");
        }
        history.save(now);
        int done = carryOutBuffer();
        length = 0;
        return done;
    }

    public int undo() throws IllegalStateException {
        if (history.kept == 0) {
            throw new IllegalStateException("there is no saved state");
        }
        history.restoreInto(now);
        return history.kept;
    }

    // ---- what there is

    public int axis(int axis, int what) throws IndexOutOfBoundsException, IllegalArgumentException {
        Gear gear = gearOf(axis);
        if (what < 0 || what >= PROPERTIES) {
            throw new IllegalArgumentException("what is not 0 to 11");
        }
        return gear.property(what);
    }

    public int wear(int axis, int tooth) throws IndexOutOfBoundsException {
        Gear gear = gearOf(axis);
        checkTooth(tooth);
        return gear.wearOf(tooth);
    }

    public int count(int what) throws IllegalArgumentException {
        if (what < 0 || what >= COUNTS) {
            throw new IllegalArgumentException("what is not 0 to 8");
        }
        return countOf(what);
    }

    public int setting(int setting) throws IndexOutOfBoundsException {
        checkSetting(setting);
        return now.rules.valueOf(setting);
    }

    // ---- what would be; nothing is changed

    public int toll(int axis, boolean isUp) throws IndexOutOfBoundsException {
        return gearOf(axis).tollOfStep(wayOf(isUp), now.rules);
    }

    public int slips(int axis, boolean isUp) throws IndexOutOfBoundsException {
        return turnAndSlip(gearOf(axis), wayOf(isUp));
    }

    public int cost(int axis, int place, boolean isUp)
            throws IndexOutOfBoundsException, IllegalArgumentException {
        Gear gear = gearOf(axis);
        checkPlace(place);
        return gear.costOfWay(place, wayOf(isUp), NONE, now.rules);
    }

    public int ifHomed(int axis, int what) throws IndexOutOfBoundsException, IllegalArgumentException {
        Gear gear = gearOf(axis);
        if (what < 0 || what >= HOMING_FACTS) {
            throw new IllegalArgumentException("what is not 0 to 2");
        }
        return homingFact(gear, what);
    }

    public int reach(int axis, boolean isUp) throws IndexOutOfBoundsException {
        return reachOf(gearOf(axis), wayOf(isUp));
    }

    public int couldBe(int axis) throws IndexOutOfBoundsException {
        return gearOf(axis).possiblePlaces();
    }

    public int worst(int axis, int place) throws IndexOutOfBoundsException, IllegalArgumentException {
        Gear gear = gearOf(axis);
        checkPlace(place);
        return worstTooth(gear, place);
    }

    public double meanToll() {
        int steps = now.sumOf(Gear.STEPS);
        if (steps <= 0) {
            return 0.0;
        }
        return (double) now.sumOf(Gear.TOLLS) / (double) steps;
    }

    public long digest() {
        long hash = DIGEST_START;
        for (int what = 0; what < COUNTS; what++) {
            hash = mixed(hash, countOf(what));
        }
        for (int setting = 0; setting < SETTINGS; setting++) {
            hash = mixed(hash, now.rules.valueOf(setting));
        }
        for (int axis = 0; axis < AXES; axis++) {
            Gear gear = now.gearAt(axis);
            if (gear != null) {
                hash = mixedWithForecasts(mixedWithFacts(hash, gear), gear);
            }
        }
        hash = mixed(hash, bitsOf(meanToll()));
        hash = mixed(hash, length);
        for (int i = 0; i < length; i++) {
            hash = mixed(hash, codeAt(i));
        }
        return hash;
    }

    // ---- what is asked for, looked at

    private Gear gearOf(int axis) {
        Gear gear = now.gearAt(axis);
        if (gear == null) {
            throw new IndexOutOfBoundsException("there is no such axis");
        }
        return gear;
    }

    private static void checkSetting(int setting) {
        if (setting < 0 || setting >= SETTINGS) {
            throw new IndexOutOfBoundsException("there is no such setting");
        }
    }

    private static void checkTooth(int tooth) {
        if (tooth < 0 || tooth >= TEETH) {
            throw new IndexOutOfBoundsException("there is no such tooth");
        }
    }

    private static void checkPlace(int place) {
        if (place < 0 || place >= TEETH) {
            throw new IllegalArgumentException("place is out of range");
        }
    }

    private static boolean isValueOf(int setting, int value) {
        if (setting < 0 || setting >= LEAST_OF_SETTING.length || setting >= MOST_OF_SETTING.length) {
            return false;
        }
        return value >= LEAST_OF_SETTING[setting] && value <= MOST_OF_SETTING[setting];
    }

    private static int wayOf(boolean isUp) {
        return isUp ? UP : DOWN;
    }

    // ---- moving and care, when nothing speaks against it

    private boolean canStep(Gear gear, int way) {
        return gear.tollOfStep(way, now.rules) <= now.purse;
    }

    private boolean canGo(Gear gear, int place) {
        return gear.believed == place || canStep(gear, cheaperWay(gear, place));
    }

    private boolean canGrease() {
        return now.purse >= now.rules.greasingCost;
    }

    private int makeSteps(Gear gear, int way, int most) {
        int made = 0;
        while (made < most) {
            int paid = gear.makeStep(way, now.purse, now.rules);
            if (paid == 0) {
                break;
            }
            now.purse -= paid;
            made++;
        }
        return made;
    }

    private int goTo(Gear gear, int place) {
        int way = cheaperWay(gear, place);
        int tolls = 0;
        for (int made = 0; made < TEETH && gear.believed != place; made++) {
            int paid = gear.makeStep(way, now.purse, now.rules);
            if (paid == 0) {
                break;
            }
            now.purse -= paid;
            tolls += paid;
        }
        return tolls;
    }

    private boolean makeHomed(Gear gear) {
        int homingsBefore = gear.homings;
        now.purse -= gear.makeHomed(now.purse, now.rules);
        return gear.homings > homingsBefore;
    }

    private void makeGreased(Gear gear) {
        now.payCare(now.rules.greasingCost);
        gear.greased = now.rules.greasedSteps;
    }

    private int cheaperWay(Gear gear, int place) {
        int costUp = gear.costOfWay(place, UP, NONE, now.rules);
        int costDown = gear.costOfWay(place, DOWN, NONE, now.rules);
        return costUp <= costDown ? UP : DOWN;
    }

    // ---- the buffer

    private int codeAt(int index) {
        return index >= 0 && index < buffer.length ? buffer[index] : 0;
    }

    private int indexOfSyntaxError() {
        reader.begin();
        for (int i = 0; i < length; i++) {
            if (!reader.take(codeAt(i))) {
                return i;
            }
        }
        return length;
    }

    private boolean isProgram() {
        return indexOfSyntaxError() == length && reader.isAtEndOfCommand();
    }

    private int carryOutBuffer() {
        reader.begin();
        int done = 0;
        for (int i = 0; i <= length; i++) {
            int code = i < length ? codeAt(i) : Reader.SEPARATOR;
            if (code == Reader.SEPARATOR) {
                if (!carryOutCommand()) {
                    break;
                }
                done++;
            }
            reader.take(code);
        }
        return done;
    }

    /** Carries out the command that was read last; false if its method would throw an exception. */
    private boolean carryOutCommand() {
        Gear gear = now.gearAt(reader.axis);
        if (gear == null) {
            return false;
        }
        switch (reader.kind) {
            case '+':
                return makeSteps(gear, UP, reader.number) > 0;
            case '-':
                return makeSteps(gear, DOWN, reader.number) > 0;
            case '=':
                if (!canGo(gear, reader.number)) {
                    return false;
                }
                goTo(gear, reader.number);
                return true;
            case 'g':
                if (!canGrease()) {
                    return false;
                }
                makeGreased(gear);
                return true;
            default:
                makeHomed(gear);
                return true;
        }
    }

    // ---- numbers of what there is and of what would be

    private int countOf(int what) {
        switch (what) {
            case 0:
                return now.purse;
            case 1:
                return now.sumOf(Gear.STEPS);
            case 2:
                return now.sumOf(Gear.TOLLS);
            case 3:
                return now.sumOf(Gear.SLIPS);
            case 4:
                return now.careCosts;
            case 5:
                return now.wearOfAll();
            case 6:
                return now.teethWornTo(now.rules.wearThatSlips);
            case 7:
                return now.axesWhereBelieved();
            default:
                return history.kept;
        }
    }

    private int turnAndSlip(Gear gear, int way) {
        if (!gear.isTurn(way)) {
            return 0;
        }
        int wear = gear.wearOf(Gear.toothBy(gear.place, way));
        return wear >= now.rules.wearThatSlips ? 2 : 1;
    }

    private int homingFact(Gear gear, int what) {
        trial.copyFrom(gear);
        int tolls = trial.makeHomed(now.purse, now.rules);
        switch (what) {
            case 0:
                return trial.steps - gear.steps;
            case 1:
                return tolls;
            default:
                return trial.homings - gear.homings;
        }
    }

    private int reachOf(Gear gear, int way) {
        trial.copyFrom(gear);
        int purse = now.purse;
        int made = 0;
        while (made < MOST_REACH) {
            int paid = trial.makeStep(way, purse, now.rules);
            if (paid == 0) {
                break;
            }
            purse -= paid;
            made++;
        }
        return made;
    }

    private int worstTooth(Gear gear, int place) {
        int worst = NONE;
        int least = lesserCost(gear, place, NONE);
        for (int tooth = 0; tooth < TEETH; tooth++) {
            int costWithout = lesserCost(gear, place, tooth);
            if (costWithout < least) {
                least = costWithout;
                worst = tooth;
            }
        }
        return worst;
    }

    private int lesserCost(Gear gear, int place, int toothTakenAsNew) {
        int costUp = gear.costOfWay(place, UP, toothTakenAsNew, now.rules);
        int costDown = gear.costOfWay(place, DOWN, toothTakenAsNew, now.rules);
        return Math.min(costUp, costDown);
    }

    // ---- the digest

    private static long mixed(long hash, long value) {
        return 31 * hash + value;
    }

    private static long mixedWithFacts(long hash, Gear gear) {
        for (int what = 0; what < PROPERTIES; what++) {
            hash = mixed(hash, gear.property(what));
        }
        for (int tooth = 0; tooth < TEETH; tooth++) {
            hash = mixed(hash, gear.wearOf(tooth));
        }
        return hash;
    }

    private long mixedWithForecasts(long hash, Gear gear) {
        hash = mixed(hash, gear.tollOfStep(UP, now.rules));
        hash = mixed(hash, gear.tollOfStep(DOWN, now.rules));
        hash = mixed(hash, turnAndSlip(gear, UP));
        hash = mixed(hash, turnAndSlip(gear, DOWN));
        hash = mixed(hash, gear.costOfWay(DIGEST_PLACE, UP, NONE, now.rules));
        hash = mixed(hash, gear.costOfWay(DIGEST_PLACE, DOWN, NONE, now.rules));
        for (int what = 0; what < HOMING_FACTS; what++) {
            hash = mixed(hash, homingFact(gear, what));
        }
        hash = mixed(hash, reachOf(gear, UP));
        hash = mixed(hash, reachOf(gear, DOWN));
        hash = mixed(hash, gear.possiblePlaces());
        return mixed(hash, worstTooth(gear, DIGEST_PLACE));
    }

    /**
     * The bits of a mean toll, as Double.doubleToLongBits gives them. LANGUAGE.md leaves that function out,
     * so they are put together by arithmetic, which is exact here: a mean toll is 0 or from 1 to 105.
     */
    private static long bitsOf(double mean) {
        if (mean < 1.0) {
            return 0L;
        }
        double fraction = mean;
        long exponent = 0;
        while (fraction >= 2.0 && exponent < 1023) {
            fraction = fraction / 2.0;
            exponent++;
        }
        long mantissa = (long) ((fraction - 1.0) * (double) (1L << 52));
        return ((exponent + 1023) << 52) | mantissa;
    }

    /** The settings, by name for the rules and by number for the face. */
    private static final class Rules {
        int wearByStep = 3;
        int wearPerToll = 10;
        int wearThatSlips = 40;
        int mendingCost = 1;
        int greasedSteps = 12;
        int greasingCost = 15;

        int valueOf(int setting) {
            switch (setting) {
                case 0:
                    return wearByStep;
                case 1:
                    return wearPerToll;
                case 2:
                    return wearThatSlips;
                case 3:
                    return mendingCost;
                case 4:
                    return greasedSteps;
                default:
                    return greasingCost;
            }
        }

        void put(int setting, int value) {
            switch (setting) {
                case 0:
                    wearByStep = value;
                    break;
                case 1:
                    wearPerToll = value;
                    break;
                case 2:
                    wearThatSlips = value;
                    break;
                case 3:
                    mendingCost = value;
                    break;
                case 4:
                    greasedSteps = value;
                    break;
                default:
                    greasingCost = value;
                    break;
            }
        }

        void copyFrom(Rules other) {
            wearByStep = other.wearByStep;
            wearPerToll = other.wearPerToll;
            wearThatSlips = other.wearThatSlips;
            mendingCost = other.mendingCost;
            greasedSteps = other.greasedSteps;
            greasingCost = other.greasingCost;
        }
    }

    /** One axis with its ring of teeth. */
    private static final class Gear {
        static final int STEPS = 6;
        static final int SLIPS = 7;
        static final int TOLLS = 8;

        final int[] wears = new int[TEETH];
        int place = 0;
        int believed = 0;
        int load = 0;
        int way = 0;
        int slack = 0;
        int greased = 0;
        int steps = 0;
        int slips = 0;
        int tolls = 0;
        int turns = 0;
        int homings = 0;

        static int nextPlace(int from, int way) {
            int to = from + way;
            if (to < 0) {
                return TEETH - 1;
            }
            return to < TEETH ? to : 0;
        }

        static int toothBy(int from, int way) {
            if (way == UP) {
                return from;
            }
            return from > 0 ? from - 1 : TEETH - 1;
        }

        static int distance(int one, int other) {
            int up = Math.floorMod(other - one, TEETH);
            return Math.min(up, TEETH - up);
        }

        int wearOf(int tooth) {
            return tooth >= 0 && tooth < wears.length ? wears[tooth] : 0;
        }

        void setWear(int tooth, int wear) {
            if (tooth >= 0 && tooth < wears.length) {
                wears[tooth] = wear;
            }
        }

        int tollWith(int wear, int greasedLeft, Rules rules) {
            int toll = 1 + load;
            if (rules.wearPerToll > 0) {
                toll += wear / rules.wearPerToll;
            }
            return greasedLeft > 0 ? (toll + 1) / 2 : toll;
        }

        int tollOfStep(int stepWay, Rules rules) {
            return tollWith(wearOf(toothBy(place, stepWay)), greased, rules);
        }

        boolean isTurn(int stepWay) {
            return way == -stepWay;
        }

        /** Makes one step if the purse has its toll, and returns the toll; 0, which no toll is, if it has less. */
        int makeStep(int stepWay, int purse, Rules rules) {
            int tooth = toothBy(place, stepWay);
            int wear = wearOf(tooth);
            int toll = tollWith(wear, greased, rules);
            if (toll > purse) {
                return 0;
            }
            boolean turning = isTurn(stepWay);
            if (turning) {
                turns++;
                slack = Math.min(slack + 1, MOST_SLACK);
            }
            believed = nextPlace(believed, stepWay);
            if (turning && wear >= rules.wearThatSlips) {
                slips++;
            } else {
                place = nextPlace(place, stepWay);
            }
            setWear(tooth, Math.min(wear + rules.wearByStep, MOST_WEAR));
            way = stepWay;
            greased = Math.max(greased - 1, 0);
            steps++;
            tolls += toll;
            return toll;
        }

        /** Steps down to the place 0 as far as the purse has the tolls, and returns the tolls. */
        int makeHomed(int purse, Rules rules) {
            int paidInAll = 0;
            for (int made = 0; made < MOST_HOMING_STEPS && place != 0; made++) {
                int paid = makeStep(DOWN, purse - paidInAll, rules);
                if (paid == 0) {
                    break;
                }
                paidInAll += paid;
            }
            if (place == 0) {
                believed = 0;
                slack = 0;
                way = 0;
                homings++;
            }
            return paidInAll;
        }

        /** The cost as told for going; the tooth taken as new (NONE for none) counts as if it had no wear. */
        int costOfWay(int target, int costWay, int toothTakenAsNew, Rules rules) {
            int at = believed;
            int sum = 0;
            for (int made = 0; made < TEETH && at != target; made++) {
                int tooth = toothBy(at, costWay);
                int wear = tooth == toothTakenAsNew ? 0 : wearOf(tooth);
                sum += tollWith(wear, greased - made, rules);
                at = nextPlace(at, costWay);
            }
            return sum;
        }

        int possiblePlaces() {
            int mask = 0;
            for (int candidate = 0; candidate < TEETH; candidate++) {
                if (distance(candidate, believed) <= slack) {
                    mask |= 1 << candidate;
                }
            }
            return mask;
        }

        int property(int what) {
            switch (what) {
                case 0:
                    return place;
                case 1:
                    return believed;
                case 2:
                    return load;
                case 3:
                    return way;
                case 4:
                    return slack;
                case 5:
                    return greased;
                case STEPS:
                    return steps;
                case SLIPS:
                    return slips;
                case TOLLS:
                    return tolls;
                case 9:
                    return distance(place, believed);
                case 10:
                    return turns;
                default:
                    return homings;
            }
        }

        void copyFrom(Gear other) {
            System.arraycopy(other.wears, 0, wears, 0, Math.min(other.wears.length, wears.length));
            place = other.place;
            believed = other.believed;
            load = other.load;
            way = other.way;
            slack = other.slack;
            greased = other.greased;
            steps = other.steps;
            slips = other.slips;
            tolls = other.tolls;
            turns = other.turns;
            homings = other.homings;
        }
    }

    /** All that undo brings back. */
    private static final class State {
        final Rules rules = new Rules();
        final Gear[] gears = new Gear[AXES];
        int purse = FIRST_PURSE;
        int careCosts = 0;

        State() {
            for (int axis = 0; axis < gears.length; axis++) {
                gears[axis] = new Gear();
            }
        }

        /** The axis of this number; null if there is none. */
        Gear gearAt(int axis) {
            return axis >= 0 && axis < gears.length ? gears[axis] : null;
        }

        void payCare(int price) {
            purse -= price;
            careCosts += price;
        }

        int sumOf(int property) {
            int sum = 0;
            for (int axis = 0; axis < AXES; axis++) {
                Gear gear = gearAt(axis);
                if (gear != null) {
                    sum += gear.property(property);
                }
            }
            return sum;
        }

        int wearOfAll() {
            int sum = 0;
            for (int axis = 0; axis < AXES; axis++) {
                Gear gear = gearAt(axis);
                for (int tooth = 0; tooth < TEETH && gear != null; tooth++) {
                    sum += gear.wearOf(tooth);
                }
            }
            return sum;
        }

        int teethWornTo(int wear) {
            int teeth = 0;
            for (int axis = 0; axis < AXES; axis++) {
                Gear gear = gearAt(axis);
                for (int tooth = 0; tooth < TEETH && gear != null; tooth++) {
                    if (gear.wearOf(tooth) >= wear) {
                        teeth++;
                    }
                }
            }
            return teeth;
        }

        int axesWhereBelieved() {
            int axes = 0;
            for (int axis = 0; axis < AXES; axis++) {
                Gear gear = gearAt(axis);
                if (gear != null && gear.place == gear.believed) {
                    axes++;
                }
            }
            return axes;
        }

        void copyFrom(State other) {
            rules.copyFrom(other.rules);
            purse = other.purse;
            careCosts = other.careCosts;
            for (int axis = 0; axis < AXES; axis++) {
                Gear mine = gearAt(axis);
                Gear others = other.gearAt(axis);
                if (mine != null && others != null) {
                    mine.copyFrom(others);
                }
            }
        }
    }

    /** The saved states, in a ring of rows that are made once: a new one takes the oldest one's row. */
    private static final class History {
        final State[] rows = new State[MOST_SAVED];
        int newest = 0;
        int kept = 0;

        History() {
            for (int i = 0; i < rows.length; i++) {
                rows[i] = new State();
            }
        }

        State newestRow() {
            return newest >= 0 && newest < rows.length ? rows[newest] : null;
        }

        void save(State state) {
            newest = newest + 1 < MOST_SAVED ? newest + 1 : 0;
            kept = Math.min(kept + 1, MOST_SAVED);
            State row = newestRow();
            if (row != null) {
                row.copyFrom(state);
            }
        }

        void restoreInto(State state) {
            State row = newestRow();
            if (row != null) {
                state.copyFrom(row);
            }
            newest = newest > 0 ? newest - 1 : MOST_SAVED - 1;
            kept = Math.max(kept - 1, 0);
        }
    }

    /** Reads a program one character after the other, and holds the command that it read last. */
    private static final class Reader {
        static final int SEPARATOR = ';';

        static final int AT_LETTER = 0;
        static final int AT_KIND = 1;
        static final int AT_NUMBER = 2;
        static final int AT_SECOND_DIGIT = 3;
        static final int AT_SEPARATOR = 4;

        int phase = AT_LETTER;
        int axis = 0;
        int kind = 0;
        int number = 0;

        void begin() {
            phase = AT_LETTER;
        }

        boolean isAtEndOfCommand() {
            return phase == AT_SECOND_DIGIT || phase == AT_SEPARATOR;
        }

        /** Takes one more character; false, and nothing is taken, if no program goes on with it. */
        boolean take(int code) {
            switch (phase) {
                case AT_LETTER:
                    return takeLetter(code);
                case AT_KIND:
                    return takeKind(code);
                case AT_NUMBER:
                    return takeFirstDigit(code);
                case AT_SECOND_DIGIT:
                    return takeSecondDigit(code) || takeSeparator(code);
                default:
                    return takeSeparator(code);
            }
        }

        boolean takeLetter(int code) {
            if (code < 'a' || code >= 'a' + AXES) {
                return false;
            }
            axis = code - 'a';
            phase = AT_KIND;
            return true;
        }

        boolean takeKind(int code) {
            boolean hasNumber = code == '+' || code == '-' || code == '=';
            if (!hasNumber && code != 'h' && code != 'g') {
                return false;
            }
            kind = code;
            phase = hasNumber ? AT_NUMBER : AT_SEPARATOR;
            return true;
        }

        boolean takeFirstDigit(int code) {
            int least = kind == '=' ? '0' : '1';
            if (code < least || code > '9') {
                return false;
            }
            number = code - '0';
            phase = AT_SECOND_DIGIT;
            return true;
        }

        boolean takeSecondDigit(int code) {
            int most = kind == '=' ? TEETH - 1 : MOST_STEPS;
            int longer = 10 * number + code - '0';
            if (code < '0' || code > '9' || number == 0 || longer > most) {
                return false;
            }
            number = longer;
            phase = AT_SEPARATOR;
            return true;
        }

        boolean takeSeparator(int code) {
            if (code != SEPARATOR) {
                return false;
            }
            phase = AT_LETTER;
            return true;
        }
    }
}
