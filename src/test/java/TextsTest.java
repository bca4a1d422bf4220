/** Promises 10 to 14: append, clearBuffer, firstError, run, undo. */
public final class TextsTest {
    public static void main(String[] args) {
        promise10Append();
        promise11ClearBuffer();
        promise12FirstError();
        promise12LongTexts();
        promise13Ordinary();
        promise13Stops();
        promise13Incomplete();
        promise14Six();
        promise14All();
        promise14Buffer();
        promise14Mixed();
        Check.end("TextsTest");
    }

    private static ArmTolls armWithText(String text) {
        ArmTolls x = new ArmTolls();
        Check.type(x, text);
        return x;
    }

    private static void promise10Append() {
        ArmTolls x = new ArmTolls();
        for (int wrong : new int[] {32, 127, 0, -1, 97 + 65536, Integer.MIN_VALUE, Integer.MAX_VALUE}) {
            Check.refuses(x, "append(" + wrong + ")", Check.ARGUMENT, y -> y.append(wrong));
        }
        Check.due("append(33)", x.append(33), 1);
        Check.due("append(126)", x.append(126), 2);
        for (int length = 3; length <= 60; length++) {
            Check.due("append('a')", x.append('a'), length);
        }
        Check.refuses(x, "append('a') with 60", Check.STATE, y -> y.append('a'));
        Check.refuses(x, "append(32) with 60", Check.ARGUMENT, y -> y.append(32));
        Check.due("count(8)", x.count(8), 0);
    }

    private static void promise11ClearBuffer() {
        ArmTolls x = armWithText("ah;");
        Check.due("clearBuffer()", x.clearBuffer(), 3);
        Check.due("clearBuffer() once more", x.clearBuffer(), 0);
        Check.due("firstError()", x.firstError(), 0);
        Check.due("append('b')", x.append('b'), 1);
        Check.due("count(8)", x.count(8), 0);
        Check.type(x, "gggggggggggggggggggggggggggggggggggggggggggggggggggggggggg");
        x.append('g');
        Check.due("clearBuffer() of a full one", x.clearBuffer(), 60);
    }

    private static void promise12FirstError() {
        String[] right = {"", "a", "b", "c", "d", "a+", "a-", "a=", "ah", "ag", "a+1", "a+9", "a+10", "a+19", "a+2",
            "a+20", "a+24", "b-24", "b-1", "c=0", "c=1", "c=9", "c=10", "c=19", "c=20", "c=23", "d=3", "ah;", "ag;b",
            "a+1;", "a+24;a", "a=0;b=23;ch;dg;a-9"};
        for (String text : right) {
            ArmTolls x = armWithText(text);
            Check.due("firstError() of " + text, x.firstError(), text.length());
            Check.due("firstError() changes the buffer " + text, x.clearBuffer(), text.length());
        }
        String[] beforeError = {"", "e", "", "`", "", "A", "", "1", "", ";", "", "+", "", "h", "", "zz", "a", "a", "a", "1",
            "a", ";", "a", "H", "a", "i", "a", "f", "a+", "0", "a-", "0", "a+", ";", "a+", "-", "a=", "-", "a=", ";",
            "a+2", "5", "a-2", "5", "a=2", "4", "a+3", "0", "a-9", "9", "a=3", "0", "a+24", "0", "a=23", "0", "a=10", "1",
            "a=0", "0", "a=0", "1", "a+1", "b", "a+1", "h", "a+1", "/", "a+1", ":", "a=1", ":", "a+", "/", "a+", ":",
            "a=", "/", "a=", ":", "a+24", "+", "ah", "1", "ah", "h", "ag", "g", "ah", "a", "ah;", ";", "ah;", "h",
            "a+5;", "5", "a+2", "5;a+", "ah", ":;a=24", "a-2", "/"};
        for (int i = 0; i < beforeError.length; i += 2) {
            String text = beforeError[i] + beforeError[i + 1];
            Check.due("firstError() of " + text, armWithText(text).firstError(), beforeError[i].length());
        }
    }

    private static void promise12LongTexts() {
        ArmTolls x = armWithText("ah;bg;c+1;ah;bg;c+1;ah;bg;c+1;ah;bg;c+1;ah;bg;c+1;ah;bg;c+1");
        Check.due("firstError() of 59", x.firstError(), 59);
        x.append(';');
        Check.due("firstError() of 60, though no end has room", x.firstError(), 60);
        Check.refuses(x, "run() of 60", Check.ARGUMENT, y -> y.run());
        x.clearBuffer();
        Check.type(x, "ah;bg;c+1;ah;bg;c+1;ah;bg;c+1;ah;bg;c+1;ah;bg;c+1;ah;bg;c+1");
        x.append('3');
        Check.due("run() of 60", x.run(), 18);
        Check.due("axis(2, 0)", x.axis(2, 0), 18);
        Check.due("axis(0, 11)", x.axis(0, 11), 6);
    }

    private static void promise13Ordinary() {
        ArmTolls x = armWithText("a+24;a-3;b=12;c=20;d-10;dg;bh");
        Check.due("run()", x.run(), 7);
        Check.axisIs(x, 0, 21, 21, 0, -1, 1, 0, 27, 0, 27, 0, 1, 0);
        Check.axisIs(x, 1, 0, 0, 0, 0, 0, 0, 24, 0, 24, 0, 1, 1);
        Check.axisIs(x, 2, 20, 20, 0, -1, 0, 0, 4, 0, 4, 0, 0, 0);
        Check.axisIs(x, 3, 14, 14, 0, -1, 0, 12, 10, 0, 10, 0, 0, 0);
        Check.due("count(0)", x.count(0), 1000 - 65 - 15);
        Check.due("count(4)", x.count(4), 15);
        Check.due("clearBuffer() after run()", x.clearBuffer(), 0);
        Check.due("count(8)", x.count(8), 1);
        long after = x.digest();
        Check.due("undo()", x.undo(), 0);
        Check.due("digest() after undo of run()", x.digest(), new ArmTolls().digest());
        Check.type(x, "a+24;a-3;b=12;c=20;d-10;dg;bh");
        x.run();
        Check.due("digest() of the same run()", x.digest(), after);
        Check.type(x, "c-1");
        Check.due("run() of one command", x.run(), 1);
        Check.due("axis(2, 0)", x.axis(2, 0), 19);
    }

    private static void promise13Stops() {
        ArmTolls x = Check.armWithPurse(3);
        Check.type(x, "a+2;b-5;c+1;ah");
        Check.due("run() with 3", x.run(), 2);
        Check.due("axis(0, 0)", x.axis(0, 0), 2);
        Check.due("axis(1, 0)", x.axis(1, 0), 23);
        Check.due("axis(0, 11)", x.axis(0, 11), 0);
        Check.due("clearBuffer() after run()", x.clearBuffer(), 0);
        Check.type(x, "a=2;ah;bh;ch;a=1;dh");
        Check.due("run() with 0, up to going", x.run(), 4);
        Check.due("axis(2, 11)", x.axis(2, 11), 1);
        Check.due("axis(3, 11)", x.axis(3, 11), 0);
        x.earn(20);
        Check.type(x, "dg;cg;dh");
        Check.due("run() up to greasing", x.run(), 1);
        Check.due("count(0)", x.count(0), 5);
        x.load(0, 5);
        int saved = x.undo();
        Check.due("undo() of load", saved, x.count(8));
        x.load(0, 5);
        Check.type(x, "a-1;bh");
        long before = x.digest();
        Check.due("run() of nothing", x.run(), 0);
        x.undo();
        Check.type(x, "a-1;bh");
        Check.due("axis(0, 2) after undo of an empty run", x.axis(0, 2), 5);
        Check.due("steps are not changed", x.count(1), 3);
        x.undo();
        Check.due("axis(0, 2) after undo of load", x.axis(0, 2), 0);
        Check.due("digest() differs", before == x.digest() ? 1 : 0, 0);
    }

    private static void promise13Incomplete() {
        for (String text : new String[] {"", "a", "a+", "a=", "ah;", "a+1;b", "a+1;b-", "a+0", "a+25", "a=24", "x", "ah;;",
            "ah;bh;ch;dh;", "a+1;b+1;c+99"}) {
            Check.refuses(armWithText(text), "run() of " + text, Check.ARGUMENT, y -> y.run());
        }
    }

    private static void promise14Six() {
        ArmTolls x = new ArmTolls();
        Check.refuses(x, "undo() of nothing", Check.STATE, y -> y.undo());
        for (int i = 1; i <= 9; i++) {
            x.earn(i);
            Check.due("count(8)", x.count(8), Math.min(i, 6));
        }
        int[] purses = {1036, 1028, 1021, 1015, 1010, 1006};
        for (int i = 0; i < purses.length; i++) {
            Check.due("undo()", x.undo(), 5 - i);
            Check.due("count(0)", x.count(0), purses[i]);
        }
        Check.refuses(x, "undo() of the seventh", Check.STATE, y -> y.undo());
    }

    private static void promise14All() {
        ArmTolls x = new ArmTolls();
        x.set(0, 20);
        x.set(2, 40);
        x.step(1, 5);
        x.step(1, -3);
        x.grease(1);
        long before = x.digest();
        x.earn(77);
        x.load(1, 3);
        x.set(1, 1);
        x.step(1, 3);
        x.mend(1, 4);
        x.home(1);
        Check.due("count(3), slips to be undone", x.count(3), 2);
        for (int left = 5; left >= 0; left--) {
            Check.due("undo()", x.undo(), left);
        }
        for (int i = 0; i < 5; i++) {
            x.load(0, 0);
        }
        Check.due("digest() after undo of all, with as many saved", x.digest(), before);
    }

    private static void promise14Buffer() {
        ArmTolls x = armWithText("ah");
        x.earn(1);
        Check.type(x, ";bg");
        x.undo();
        Check.due("clearBuffer() after undo", x.clearBuffer(), 5);
        x.earn(1);
        Check.type(x, "ah");
        x.run();
        x.undo();
        Check.due("clearBuffer() after undo of run()", x.clearBuffer(), 0);
    }

    private static void promise14Mixed() {
        ArmTolls x = new ArmTolls();
        for (int round = 0; round < 20; round++) {
            x.earn(1);
            x.earn(2);
            x.earn(4);
            Check.due("count(0)", x.count(0), 1000 + 3 * round + 7);
            x.undo();
            Check.due("count(0)", x.count(0), 1000 + 3 * round + 3);
            Check.due("count(8)", x.count(8), round == 0 ? 2 : round == 1 ? 4 : 5);
        }
        int[] purses = {1058, 1057, 1055, 1054, 1052};
        for (int i = 0; i < purses.length; i++) {
            Check.due("undo()", x.undo(), 4 - i);
            Check.due("count(0)", x.count(0), purses[i]);
        }
        Check.refuses(x, "undo() of no more", Check.STATE, y -> y.undo());
    }
}
