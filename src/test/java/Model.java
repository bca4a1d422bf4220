import java.util.ArrayDeque;
import java.util.regex.Matcher;
import java.util.regex.Pattern;

/**
 * The document told a second time, in another way than the program: each thing that would be is found by doing it
 * on a copy, texts are read by a pattern, and methods that cannot do their work throw.
 */
final class Model {
    private static final String COMMAND = "[a-d]([+-](1[0-9]?|2[0-4]?|[3-9])|=(0|1[0-9]?|2[0-3]?|[3-9])|h|g)";
    private static final Pattern PROGRAM = Pattern.compile(COMMAND + "(;" + COMMAND + ")*");
    private static final int[][] RANGES = {{0, 20}, {1, 50}, {1, 99}, {0, 20}, {0, 100}, {0, 200}};

    private int purse = 1000;
    private int care = 0;
    private int[] settings = {3, 10, 40, 1, 12, 15};
    private int[][] wears = new int[4][24];
    // By the numbers of the properties of axis().
    private int[][] axes = new int[4][12];
    private String buffer = "";
    private final ArrayDeque<Model> saved = new ArrayDeque<>();

    private Model copy() {
        Model c = new Model();
        c.takeFrom(this);
        return c;
    }

    private void takeFrom(Model m) {
        purse = m.purse;
        care = m.care;
        settings = m.settings.clone();
        for (int k = 0; k < 4; k++) {
            wears[k] = m.wears[k].clone();
            axes[k] = m.axes[k].clone();
        }
    }

    private void keep(Model before) {
        saved.addLast(before);
        if (saved.size() > 6) {
            saved.removeFirst();
        }
    }

    private static void range(int x, int least, int most) {
        if (x < least || x > most) {
            throw new IllegalArgumentException();
        }
    }

    private static void index(int x, int most) {
        if (x < 0 || x > most) {
            throw new IndexOutOfBoundsException();
        }
    }

    private static void state(boolean right) {
        if (!right) {
            throw new IllegalStateException();
        }
    }

    long earn(int money) {
        range(money, 1, 10000);
        state(purse + money <= 100000);
        keep(copy());
        return purse += money;
    }

    long load(int axis, int load) {
        index(axis, 3);
        range(load, 0, 5);
        keep(copy());
        int old = axes[axis][2];
        axes[axis][2] = load;
        return old;
    }

    long set(int setting, int value) {
        index(setting, 5);
        range(value, RANGES[setting][0], RANGES[setting][1]);
        keep(copy());
        int old = settings[setting];
        settings[setting] = value;
        return old;
    }

    private int tooth(int axis, boolean up) {
        return up ? axes[axis][0] : (axes[axis][0] + 23) % 24;
    }

    long toll(int axis, boolean up) {
        index(axis, 3);
        int toll = 1 + axes[axis][2] + wears[axis][tooth(axis, up)] / settings[1];
        return axes[axis][5] == 0 ? toll : toll / 2 + toll % 2;
    }

    long slips(int axis, boolean up) {
        index(axis, 3);
        if (axes[axis][3] != (up ? -1 : 1)) {
            return 0;
        }
        return wears[axis][tooth(axis, up)] < settings[2] ? 1 : 2;
    }

    private boolean oneStep(int axis, boolean up) {
        int[] a = axes[axis];
        int toll = (int) toll(axis, up);
        if (purse < toll) {
            return false;
        }
        long kind = slips(axis, up);
        int tooth = tooth(axis, up);
        purse -= toll;
        a[8] += toll;
        a[6]++;
        if (a[5] > 0) {
            a[5]--;
        }
        if (kind > 0) {
            a[10]++;
            if (a[4] < 12) {
                a[4]++;
            }
        }
        a[1] = (a[1] + (up ? 1 : 23)) % 24;
        if (kind == 2) {
            a[7]++;
        } else {
            a[0] = (a[0] + (up ? 1 : 23)) % 24;
        }
        wears[axis][tooth] += settings[0];
        if (wears[axis][tooth] > 99) {
            wears[axis][tooth] = 99;
        }
        a[3] = up ? 1 : -1;
        return true;
    }

    private long doStep(int axis, int steps) {
        index(axis, 3);
        range(steps, -24, 24);
        if (steps == 0) {
            throw new IllegalArgumentException();
        }
        int made = 0;
        while (made < Math.abs(steps) && oneStep(axis, steps > 0)) {
            made++;
        }
        state(made > 0);
        return made;
    }

    private long doGo(int axis, int place) {
        index(axis, 3);
        range(place, 0, 23);
        int before = purse;
        boolean up = cost(axis, place, true) <= cost(axis, place, false);
        boolean stuck = false;
        while (axes[axis][1] != place && !stuck) {
            stuck = !oneStep(axis, up);
        }
        state(!stuck || purse != before);
        return before - purse;
    }

    private long doHome(int axis) {
        index(axis, 3);
        int made = 0;
        while (axes[axis][0] != 0 && made < 40 && oneStep(axis, false)) {
            made++;
        }
        if (axes[axis][0] != 0) {
            return -1;
        }
        axes[axis][1] = 0;
        axes[axis][4] = 0;
        axes[axis][3] = 0;
        axes[axis][11]++;
        return made;
    }

    private long doGrease(int axis) {
        index(axis, 3);
        state(purse >= settings[5]);
        purse -= settings[5];
        care += settings[5];
        axes[axis][5] = settings[4];
        return purse;
    }

    long step(int axis, int steps) {
        Model before = copy();
        long made = doStep(axis, steps);
        keep(before);
        return made;
    }

    long go(int axis, int place) {
        Model before = copy();
        long paid = doGo(axis, place);
        keep(before);
        return paid;
    }

    long home(int axis) {
        Model before = copy();
        long made = doHome(axis);
        keep(before);
        return made;
    }

    long grease(int axis) {
        Model before = copy();
        long left = doGrease(axis);
        keep(before);
        return left;
    }

    long mend(int axis, int tooth) {
        index(axis, 3);
        index(tooth, 23);
        int price = wears[axis][tooth] * settings[3];
        state(price <= purse);
        keep(copy());
        purse -= price;
        care += price;
        wears[axis][tooth] = 0;
        return price;
    }

    long append(int code) {
        range(code, 33, 126);
        state(buffer.length() < 60);
        buffer += (char) code;
        return buffer.length();
    }

    long clearBuffer() {
        int length = buffer.length();
        buffer = "";
        return length;
    }

    /** Some program begins with a text that the pattern takes, or that ends before the pattern could say no. */
    long firstError() {
        for (int length = 1; length <= buffer.length(); length++) {
            Matcher m = PROGRAM.matcher(buffer.substring(0, length));
            if (!m.matches() && !m.hitEnd()) {
                return length - 1;
            }
        }
        return buffer.length();
    }

    long run() {
        if (!PROGRAM.matcher(buffer).matches()) {
            throw new IllegalArgumentException();
        }
        keep(copy());
        int done = 0;
        try {
            for (String command : buffer.split(";")) {
                carryOut(command.charAt(0) - 'a', command.substring(1));
                done++;
            }
        } catch (IllegalStateException e) {
            // The first command whose method throws is not carried out.
        }
        buffer = "";
        return done;
    }

    private void carryOut(int axis, String what) {
        if (what.equals("h")) {
            doHome(axis);
        } else if (what.equals("g")) {
            doGrease(axis);
        } else if (what.charAt(0) == '=') {
            doGo(axis, Integer.parseInt(what.substring(1)));
        } else {
            doStep(axis, Integer.parseInt(what));
        }
    }

    long undo() {
        state(!saved.isEmpty());
        takeFrom(saved.removeLast());
        return saved.size();
    }

    long axis(int axis, int what) {
        index(axis, 3);
        range(what, 0, 11);
        if (what != 9) {
            return axes[axis][what];
        }
        int far = Math.abs(axes[axis][0] - axes[axis][1]);
        return far > 12 ? 24 - far : far;
    }

    long wear(int axis, int tooth) {
        index(axis, 3);
        index(tooth, 23);
        return wears[axis][tooth];
    }

    long count(int what) {
        range(what, 0, 8);
        long[] n = {purse, 0, 0, 0, care, 0, 0, 0, saved.size()};
        for (int axis = 0; axis < 4; axis++) {
            n[1] += axes[axis][6];
            n[2] += axes[axis][8];
            n[3] += axes[axis][7];
            for (int wear : wears[axis]) {
                n[5] += wear;
                n[6] += wear >= settings[2] ? 1 : 0;
            }
            n[7] += axes[axis][0] == axes[axis][1] ? 1 : 0;
        }
        return n[what];
    }

    long setting(int setting) {
        index(setting, 5);
        return settings[setting];
    }

    /** Walks from the believed place on a copy without wear by steps and with a purse for all. */
    long cost(int axis, int place, boolean up) {
        index(axis, 3);
        range(place, 0, 23);
        Model c = copy();
        c.purse = 1000000;
        c.settings[0] = 0;
        c.settings[2] = 1000;
        c.axes[axis][0] = c.axes[axis][1];
        while (c.axes[axis][0] != place) {
            c.oneStep(axis, up);
        }
        return 1000000 - c.purse;
    }

    long ifHomed(int axis, int what) {
        index(axis, 3);
        range(what, 0, 2);
        Model c = copy();
        boolean homed = c.doHome(axis) != -1;
        long[] facts = {c.count(1) - count(1), purse - c.purse, homed ? 1 : 0};
        return facts[what];
    }

    long reach(int axis, boolean up) {
        index(axis, 3);
        Model c = copy();
        int made = 0;
        while (made < 100 && c.oneStep(axis, up)) {
            made++;
        }
        return made;
    }

    long couldBe(int axis) {
        index(axis, 3);
        int mask = 0;
        for (int away = 0; away <= axes[axis][4]; away++) {
            mask |= 1 << (axes[axis][1] + away) % 24;
            mask |= 1 << (axes[axis][1] + 24 - away) % 24;
        }
        return mask;
    }

    private long lesser(int axis, int place) {
        return Math.min(cost(axis, place, true), cost(axis, place, false));
    }

    long worst(int axis, int place) {
        index(axis, 3);
        range(place, 0, 23);
        long[] without = new long[24];
        long least = Long.MAX_VALUE;
        for (int tooth = 0; tooth < 24; tooth++) {
            Model c = copy();
            c.wears[axis][tooth] = 0;
            without[tooth] = c.lesser(axis, place);
            least = Math.min(least, without[tooth]);
        }
        int lowest = 0;
        while (without[lowest] != least) {
            lowest++;
        }
        return least < lesser(axis, place) ? lowest : -1;
    }

    double meanToll() {
        return count(1) == 0 ? 0.0 : (double) count(2) / count(1);
    }

    long digest() {
        long h = 2417;
        for (int what = 0; what <= 8; what++) {
            h = 31 * h + count(what);
        }
        for (int setting : settings) {
            h = 31 * h + setting;
        }
        for (int axis = 0; axis <= 3; axis++) {
            for (int what = 0; what <= 11; what++) {
                h = 31 * h + axis(axis, what);
            }
            for (int wear : wears[axis]) {
                h = 31 * h + wear;
            }
            long[] more = {toll(axis, true), toll(axis, false), slips(axis, true), slips(axis, false),
                cost(axis, 12, true), cost(axis, 12, false), ifHomed(axis, 0), ifHomed(axis, 1), ifHomed(axis, 2),
                reach(axis, true), reach(axis, false), couldBe(axis), worst(axis, 12)};
            for (long value : more) {
                h = 31 * h + value;
            }
        }
        h = 31 * h + Double.doubleToLongBits(meanToll());
        h = 31 * h + buffer.length();
        for (char c : buffer.toCharArray()) {
            h = 31 * h + c;
        }
        return h;
    }
}
