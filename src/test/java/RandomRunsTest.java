/** All promises: long runs on new objects, each answer beside the model's, and the digest in between. */
public final class RandomRunsTest {
    private static final int RUNS = 120;
    private static final int DRAWS = 256;
    private static final int METHODS = 25;

    private static long seed;

    public static void main(String[] args) {
        for (int run = 0; run < RUNS; run++) {
            seed = 77777L * run + 5;
            oneRun(run);
        }
        Check.end("RandomRunsTest");
    }

    /** Numbers from a written rule, so that each run of the test is the same. */
    private static int any(int below) {
        seed = seed * 6364136223846793005L + 1442695040888963407L;
        return (int) ((seed >>> 33) % below);
    }

    private static void oneRun(int run) {
        ArmTolls x = new ArmTolls();
        Model m = new Model();
        for (int made = 0; made < DRAWS; made++) {
            Told call = anyCall(run);
            String got = told(() -> call.program.answer(x));
            String want = told(() -> call.model.answer(m));
            Check.dueText("run " + run + ", call " + made + ": " + call.name, got, want);
            if (made % 4 == 0 || run < 20) {
                Check.due("run " + run + ", call " + made + ": digest()", x.digest(), m.digest());
            }
        }
    }

    private interface Answer {
        long get();
    }

    private static String told(Answer call) {
        try {
            return "" + call.get();
        } catch (RuntimeException e) {
            return e.getClass().getSimpleName();
        }
    }

    private interface OnModel {
        long answer(Model m);
    }

    private static final class Told {
        final String name;
        final Check.Call program;
        final OnModel model;

        Told(String name, Check.Call program, OnModel model) {
            this.name = name;
            this.program = program;
            this.model = model;
        }
    }

    /** Mostly a number of the range, now and then one beside it. */
    private static int about(int least, int most) {
        int kind = any(40);
        if (kind == 0) {
            return least - 1;
        }
        return kind == 1 ? most + 1 : least + any(most - least + 1);
    }

    /** An axis: some runs stay with few of them, so that the wear comes soon. */
    private static int anyAxis(int run) {
        return any(30) == 0 ? any(7) - 1 : any(1 + run % 4);
    }

    private static Told anyCall(int run) {
        int axis = anyAxis(run);
        boolean up = any(2) == 0;
        int place = about(0, 23);
        switch (any(100) < 55 ? any(6) : any(METHODS)) {
            case 0: {
                int steps = any(2) == 0 ? about(-24, 24) : any(7) - 3;
                return new Told("step(" + axis + ", " + steps + ")", x -> x.step(axis, steps), m -> m.step(axis, steps));
            }
            case 1:
                return new Told("go(" + axis + ", " + place + ")", x -> x.go(axis, place), m -> m.go(axis, place));
            case 2: {
                int steps = any(2) == 0 ? 1 : -1;
                return new Told("step(" + axis + ", " + steps + ")", x -> x.step(axis, steps), m -> m.step(axis, steps));
            }
            case 3: {
                String text = anyText();
                return new Told("text " + text + " and run()", x -> typed(text, x::append, x::run),
                    m -> typed(text, c -> (int) m.append(c), () -> (int) m.run()));
            }
            case 4:
                return ofPurse(run);
            case 5:
                return any(4) == 0 ? new Told("home(" + axis + ")", x -> x.home(axis), m -> m.home(axis))
                    : any(2) == 0 ? new Told("grease(" + axis + ")", x -> x.grease(axis), m -> m.grease(axis))
                    : new Told("mend(" + axis + ", " + place + ")", x -> x.mend(axis, place), m -> m.mend(axis, place));
            case 6:
                return new Told("undo()", x -> x.undo(), m -> m.undo());
            case 7: {
                int code = about(33, 126);
                return new Told("append(" + code + ")", x -> x.append(code), m -> m.append(code));
            }
            case 8:
                return new Told("clearBuffer()", x -> x.clearBuffer(), m -> m.clearBuffer());
            case 9: {
                int load = about(0, 5);
                return new Told("load(" + axis + ", " + load + ")", x -> x.load(axis, load), m -> m.load(axis, load));
            }
            case 10:
            case 11:
                return ofSetting();
            default:
                return question(axis, place, up);
        }
    }

    private static Told ofPurse(int run) {
        int most = run % 3 == 0 ? 10000 : 60;
        int money = about(1, most);
        return new Told("earn(" + money + ")", x -> x.earn(money), m -> m.earn(money));
    }

    private static Told ofSetting() {
        int[] mosts = {20, 50, 99, 20, 100, 200};
        int setting = about(0, 5);
        int most = setting < 0 || setting > 5 ? 300 : mosts[setting];
        int value = any(3) == 0 ? any(Math.min(6, most + 1)) : about(0, most);
        return new Told("set(" + setting + ", " + value + ")", x -> x.set(setting, value), m -> m.set(setting, value));
    }

    private static Told question(int axis, int place, boolean up) {
        int what = about(0, 11);
        switch (any(13)) {
            case 0:
                return new Told("axis(" + axis + ", " + what + ")", x -> x.axis(axis, what), m -> m.axis(axis, what));
            case 1:
                return new Told("wear(" + axis + ", " + place + ")", x -> x.wear(axis, place), m -> m.wear(axis, place));
            case 2:
                return new Told("count(" + what + ")", x -> x.count(what), m -> m.count(what));
            case 3:
                return new Told("setting(" + what + ")", x -> x.setting(what), m -> m.setting(what));
            case 4:
                return new Told("toll(" + axis + ", " + up + ")", x -> x.toll(axis, up), m -> m.toll(axis, up));
            case 5:
                return new Told("slips(" + axis + ", " + up + ")", x -> x.slips(axis, up), m -> m.slips(axis, up));
            case 6:
                return new Told("cost(" + axis + ", " + place + ", " + up + ")",
                    x -> x.cost(axis, place, up), m -> m.cost(axis, place, up));
            case 7:
                return new Told("ifHomed(" + axis + ", " + what / 3 + ")",
                    x -> x.ifHomed(axis, what / 3), m -> m.ifHomed(axis, what / 3));
            case 8:
                return new Told("reach(" + axis + ", " + up + ")", x -> x.reach(axis, up), m -> m.reach(axis, up));
            case 9:
                return new Told("couldBe(" + axis + ")", x -> x.couldBe(axis), m -> m.couldBe(axis));
            case 10:
                return new Told("worst(" + axis + ", " + place + ")", x -> x.worst(axis, place), m -> m.worst(axis, place));
            case 11:
                return new Told("firstError()", x -> x.firstError(), m -> m.firstError());
            default:
                return new Told("meanToll()", x -> Double.doubleToLongBits(x.meanToll()),
                    m -> Double.doubleToLongBits(m.meanToll()));
        }
    }

    private interface Appender {
        int append(int code);
    }

    private interface Runner {
        int run();
    }

    /** Types what has room, and runs it; what append and run answer is mixed into one answer. */
    private static long typed(String text, Appender buffer, Runner runner) {
        long answers = 0;
        for (char c : text.toCharArray()) {
            answers = 7 * answers + buffer.append(c);
        }
        return 7 * answers + runner.run();
    }

    private static String anyText() {
        StringBuilder text = new StringBuilder();
        int commands = 1 + any(5);
        for (int i = 0; i < commands; i++) {
            text.append(i > 0 ? ";" : "").append((char) ('a' + any(4)));
            int kind = any(8);
            if (kind < 3) {
                text.append(any(2) == 0 ? '+' : '-').append(1 + any(24));
            } else if (kind < 6) {
                text.append('=').append(any(24));
            } else {
                text.append(kind == 6 ? 'h' : 'g');
            }
        }
        if (any(12) == 0) {
            text.setCharAt(any(text.length()), "abcdeh+-=;g0123456789".charAt(any(21)));
        }
        return text.toString();
    }
}
