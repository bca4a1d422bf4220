/** What the tests share: it looks at answers, prints each wrong one, and ends with exit code 1 if there was one. */
final class Check {
    /** A call of the face. */
    interface Call {
        long answer(ArmTolls x);
    }

    /** A call of the face with a number that is tried. */
    interface OnNumber {
        long answer(ArmTolls x, int number);
    }

    static final Class<IndexOutOfBoundsException> INDEX = IndexOutOfBoundsException.class;
    static final Class<IllegalArgumentException> ARGUMENT = IllegalArgumentException.class;
    static final Class<IllegalStateException> STATE = IllegalStateException.class;

    private static int looked = 0;
    private static int wrong = 0;

    private Check() {
    }

    static void due(String call, long got, long want) {
        looked++;
        if (got != want) {
            tell(call + " answered " + got + ", due is " + want);
        }
    }

    static void dueText(String call, String got, String want) {
        looked++;
        if (!got.equals(want)) {
            tell(call + " answered " + got + ", due is " + want);
        }
    }

    /** A call that throws exactly this, and changes nothing. */
    static void refuses(ArmTolls x, String call, Class<? extends RuntimeException> want, Call run) {
        long before = x.digest();
        String got;
        try {
            got = "" + run.answer(x);
        } catch (RuntimeException e) {
            got = e.getClass().getName();
        }
        dueText(call, got, want.getName());
        due(call + ", then digest()", x.digest(), before);
    }

    /** A call that saves one state: undo brings all back, but for the buffer, and the call can be told once more. */
    static void undoable(ArmTolls x, String call, Call run) {
        int saved = x.count(8);
        long before = x.digest();
        run.answer(x);
        due(call + ", then count(8)", x.count(8), Math.min(saved + 1, 6));
        due("undo() after " + call, x.undo(), Math.min(saved, 5));
        if (saved < 6) {
            due("digest() after undo of " + call, x.digest(), before);
        }
    }

    static void axisIs(ArmTolls x, int axis, int... properties) {
        for (int what = 0; what < properties.length; what++) {
            due("axis(" + axis + ", " + what + ")", x.axis(axis, what), properties[what]);
        }
    }

    static void type(ArmTolls x, String text) {
        for (int i = 0; i < text.length(); i++) {
            x.append(text.charAt(i));
        }
    }

    /** Refuses each of these numbers in the same way. */
    static void refusesEach(ArmTolls x, String call, Class<? extends RuntimeException> want, int[] numbers, OnNumber run) {
        for (int number : numbers) {
            refuses(x, call + " with n = " + number, want, y -> run.answer(y, number));
        }
    }

    /** An arm that has so much in its purse: the rest went into greasing the axis 3. */
    static ArmTolls armWithPurse(int purse) {
        return spentTo(purse, new ArmTolls());
    }

    static ArmTolls spentTo(int purse, ArmTolls x) {
        while (x.count(0) > purse) {
            x.set(5, Math.min(200, x.count(0) - purse));
            x.grease(3);
        }
        x.set(5, 15);
        return x;
    }

    static void end(String test) {
        System.out.println(test + ": " + looked + " answers looked at, " + wrong + " wrong");
        if (wrong != 0) {
            System.exit(1);
        }
    }

    static int looked() {
        return looked;
    }

    static int wrong() {
        return wrong;
    }

    static void tell(String fault) {
        wrong++;
        System.out.println(fault);
    }
}
