/** The edges of the term "Input text" and of promises 10 to 13: append, clearBuffer, firstError, run. */
public final class TextEdgesTest {
    private static final String COMMANDS =
        "A program as a text consists of one or more commands separated by ';'.";
    private static final String LETTER = "A command is a letter 'a' to 'd' for the axes 0 to 3,";
    private static final String STEPS = "and then '+' or '-' and a number of steps, 1 to 24;";
    private static final String PLACE = "or '=' and a place, 0 to 23 (it goes there);";
    private static final String HOMED = "or 'h' (it is homed);";
    private static final String GREASED = "or 'g' (it is greased).";
    private static final String ERROR = "The buffer is read from left to right; a character is a syntax error if no program, "
        + "of any length, begins with the characters before it and this character.";
    private static final String RUN = "Carries out the commands in the buffer, one after the other, up to the first one whose "
        + "method would throw an exception, and clears the buffer.";

    public static void main(String[] args) {
        Edges.run(TextEdgesTest.class);
    }

    /** Of all characters, only these are no error behind the text. */
    private static void onlyGoesOnWith(String text, String right) {
        for (char code = 33; code <= 126; code++) {
            int due = right.indexOf(code) >= 0 ? text.length() + 1 : text.length();
            Check.due("firstError() of " + text + code, Arms.withText(text + code).firstError(), due);
        }
    }

    private static void isProgram(String text, int commands) {
        ArmTolls x = Arms.rich(2000);
        Check.type(x, text);
        Check.due("firstError() of " + text, x.firstError(), text.length());
        Check.due("run() of " + text, x.run(), commands);
    }

    private static void isNoProgram(String text, int firstError) {
        ArmTolls x = Arms.withText(text);
        Check.due("firstError() of " + text, x.firstError(), firstError);
        Check.refuses(x, "run() of " + text, Check.ARGUMENT, y -> y.run());
    }

    // ---- input text

    @Edge("The buffer has at most 60 characters.")
    static void inputText_theBufferTakes60Characters() {
        ArmTolls x = Arms.withText("x".repeat(59));
        Check.due("append('x') with 59", x.append('x'), 60);
        Check.due("clearBuffer()", x.clearBuffer(), 60);
    }

    @Edge("The buffer has at most 60 characters.")
    static void inputText_theBufferDoesNotTakeTheCharacter61() {
        ArmTolls x = Arms.withText("x".repeat(60));
        Check.refuses(x, "append('x') with 60", Check.STATE, y -> y.append('x'));
        Check.due("clearBuffer()", x.clearBuffer(), 60);
    }

    @Edge(COMMANDS)
    static void inputText_noCommandIsNoProgram() {
        isNoProgram("", 0);
    }

    @Edge(COMMANDS)
    static void inputText_oneCommandIsAProgramWithoutASeparator() {
        isProgram("ah", 1);
        isNoProgram("ah;", 3);
    }

    @Edge(COMMANDS)
    static void inputText_aSeparatorStandsBetweenCommandsAlone() {
        isProgram("ah;bh", 2);
        isNoProgram(";ah", 0);
        isNoProgram("ah;;bh", 3);
        isNoProgram("ahbh", 2);
        isNoProgram("ah,bh", 2);
        isNoProgram("ah;bh;", 6);
    }

    @Edge(COMMANDS)
    static void inputText_20CommandsHaveRoom() {
        isProgram("ah;".repeat(19) + "dh", 20);
    }

    @Edge(LETTER)
    static void inputText_aCommandBeginsWithAToD() {
        onlyGoesOnWith("", "abcd");
        onlyGoesOnWith("ah;", "abcd");
        onlyGoesOnWith("d+24;", "abcd");
    }

    @Edge(LETTER)
    static void inputText_theLettersAreTheAxes0To3() {
        for (int axis = 0; axis <= 3; axis++) {
            ArmTolls x = Arms.withText((char) ('a' + axis) + "+1");
            x.run();
            for (int other = 0; other <= 3; other++) {
                Check.due("axis(" + other + ", 0)", x.axis(other, 0), other == axis ? 1 : 0);
            }
        }
    }

    @Edge("and then '+' or '-'")
    static void inputText_behindTheLetterGoesOneOfFiveSigns() {
        onlyGoesOnWith("a", "+-=hg");
        onlyGoesOnWith("ah;d", "+-=hg");
    }

    @Edge(STEPS)
    static void inputText_stepsAre1To24() {
        for (int steps = 0; steps <= 99; steps++) {
            for (String sign : new String[] {"+", "-"}) {
                if (steps >= 1 && steps <= 24) {
                    isProgram("a" + sign + steps, 1);
                } else {
                    isNoProgram("a" + sign + steps, steps == 0 ? 2 : 3);
                }
            }
        }
    }

    @Edge(STEPS)
    static void inputText_stepsUpAndDownAreMade() {
        ArmTolls x = Arms.withText("a+24;b-24;c+1;d-1");
        x.run();
        Check.axisIs(x, 0, 0, 0, 0, 1, 0, 0, 24);
        Check.axisIs(x, 1, 0, 0, 0, -1, 0, 0, 24);
        Check.axisIs(x, 2, 1, 1, 0, 1, 0, 0, 1);
        Check.axisIs(x, 3, 23, 23, 0, -1, 0, 0, 1);
    }

    @Edge(STEPS)
    static void inputText_behindADigitOfStepsGoesWhatLeads24AtMost() {
        onlyGoesOnWith("a+", "123456789");
        onlyGoesOnWith("a-", "123456789");
        onlyGoesOnWith("a+1", "0123456789;");
        onlyGoesOnWith("a-2", "01234;");
        onlyGoesOnWith("a+3", ";");
        onlyGoesOnWith("a-9", ";");
        onlyGoesOnWith("a+10", ";");
        onlyGoesOnWith("a+24", ";");
    }

    @Edge(PLACE)
    static void inputText_placesAre0To23() {
        for (int place = 0; place <= 99; place++) {
            if (place <= 23) {
                isProgram("b=" + place, 1);
            } else {
                isNoProgram("b=" + place, 3);
            }
        }
    }

    @Edge(PLACE)
    static void inputText_behindADigitOfAPlaceGoesWhatLeads23AtMost() {
        onlyGoesOnWith("c=", "0123456789");
        onlyGoesOnWith("c=0", ";");
        onlyGoesOnWith("c=1", "0123456789;");
        onlyGoesOnWith("c=2", "0123;");
        onlyGoesOnWith("c=3", ";");
        onlyGoesOnWith("c=23", ";");
    }

    @Edge(PLACE)
    static void inputText_theAxisGoesThereByTheCheaperWay() {
        ArmTolls x = Arms.withText("a=0;b=23;c=12;d=13");
        Check.due("run()", x.run(), 4);
        Check.axisIs(x, 0, 0, 0, 0, 0);
        Check.axisIs(x, 1, 23, 23, 0, -1);
        Check.axisIs(x, 2, 12, 12, 0, 1);
        Check.axisIs(x, 3, 13, 13, 0, -1);
    }

    @Edge(HOMED)
    static void inputText_hHomesTheAxis() {
        onlyGoesOnWith("ah", ";");
        ArmTolls x = Arms.withText("a+5;ah");
        x.run();
        Check.axisIs(x, 0, 0, 0, 0, 0, 0, 0, 10, 0, 10, 0, 1, 1);
    }

    @Edge(GREASED)
    static void inputText_gGreasesTheAxis() {
        onlyGoesOnWith("ag", ";");
        ArmTolls x = Arms.withText("bg");
        x.run();
        Check.due("axis(1, 5)", x.axis(1, 5), 12);
        Check.due("count(0)", x.count(0), 985);
    }

    @Edge("Numbers are without leading zeros.")
    static void inputText_aLeadingZeroOfStepsIsAnError() {
        isNoProgram("a+01", 2);
        isNoProgram("a-024", 2);
        isNoProgram("a+0", 2);
    }

    @Edge("Numbers are without leading zeros.")
    static void inputText_aLeadingZeroOfAPlaceIsAnErrorAtTheNextDigit() {
        isNoProgram("a=00", 3);
        isNoProgram("a=05", 3);
        isProgram("a=0", 1);
        isProgram("a=10;a=20", 2);
    }

    @Edge(ERROR)
    static void inputText_aProgramMayBeLongerThanTheBuffer() {
        isNoProgram("ah;".repeat(20), 60);
        isNoProgram("ag;".repeat(19) + "a=", 59);
        isNoProgram("b+1;".repeat(14) + "b+1;", 60);
    }

    @Edge(ERROR)
    static void inputText_theFirstOfSomeErrorsCounts() {
        isNoProgram("ah;x;y", 3);
        isNoProgram("a+25;a=99", 3);
        isNoProgram("!!", 0);
    }

    @Edge(ERROR)
    static void inputText_whatIsRightBehindAnErrorDoesNotMendIt() {
        isNoProgram("ahh;bh", 2);
        isNoProgram("a+;bh", 2);
    }

    @Edge(ERROR)
    static void inputText_theLastCharacterMayBeTheError() {
        isNoProgram("ah;".repeat(19) + "ahx", 59);
        isNoProgram("a=2" + "4", 3);
    }

    // ---- promise 10

    @Edge("Appends a character to the buffer.")
    static void promise10_theCharacterIsTheLastOneThen() {
        ArmTolls x = Arms.withText("a+1");
        x.append('2');
        x.run();
        Check.due("axis(0, 0)", x.axis(0, 0), 12);
    }

    @Edge("code: the character code, 33 to 126")
    static void promise10_theCodes33And126AreTaken() {
        ArmTolls x = new ArmTolls();
        Check.due("append(33)", x.append(33), 1);
        Check.due("append(126)", x.append(126), 2);
    }

    @Edge("code: the character code, 33 to 126")
    static void promise10_eachCodeBetweenIsTaken() {
        for (int code = 33; code <= 126; code++) {
            Check.due("append(" + code + ")", new ArmTolls().append(code), 1);
        }
    }

    @Edge("Returns the new length of the buffer.")
    static void promise10_theLengthIs1To60() {
        ArmTolls x = new ArmTolls();
        for (int length = 1; length <= 60; length++) {
            Check.due("append('!')", x.append('!'), length);
        }
    }

    @Edge("Throws IllegalArgumentException if code is not 33 to 126")
    static void promise10_codesBelow33AreRefused() {
        Check.refusesEach(new ArmTolls(), "append(n)", Check.ARGUMENT, Arms.below(33), (x, n) -> x.append(n));
        Check.refusesEach(new ArmTolls(), "append(n)", Check.ARGUMENT, new int[] {0, 9, 10, -97}, (x, n) -> x.append(n));
    }

    @Edge("Throws IllegalArgumentException if code is not 33 to 126")
    static void promise10_codesAbove126AreRefused() {
        Check.refusesEach(new ArmTolls(), "append(n)", Check.ARGUMENT, Arms.above(126), (x, n) -> x.append(n));
        Check.refusesEach(new ArmTolls(), "append(n)", Check.ARGUMENT, new int[] {256 + 97, 65536 + 97}, (x, n) -> x.append(n));
    }

    @Edge("Throws IllegalStateException if the buffer has 60 characters")
    static void promise10_aFullBufferRefusesEachCode() {
        ArmTolls x = Arms.withText("x".repeat(60));
        for (int code = 33; code <= 126; code++) {
            int refused = code;
            Check.refuses(x, "append(" + code + ") with 60", Check.STATE, y -> y.append(refused));
        }
    }

    @Edge("Throws IllegalStateException if the buffer has 60 characters")
    static void promise10_aFullBufferTakesCharactersOnceItIsCleared() {
        ArmTolls x = Arms.withText("x".repeat(60));
        x.clearBuffer();
        Check.due("append('x')", x.append('x'), 1);
    }

    // ---- promise 11

    @Edge("Clears the buffer.")
    static void promise11_nothingIsLeftOfAFullBuffer() {
        ArmTolls x = Arms.withText("b".repeat(60));
        x.clearBuffer();
        Check.due("firstError()", x.firstError(), 0);
        Check.due("digest() as of a new arm", x.digest(), new ArmTolls().digest());
        Check.type(x, "ah");
        Check.due("run()", x.run(), 1);
    }

    @Edge("Clears the buffer.")
    static void promise11_noStateIsSaved() {
        ArmTolls x = Arms.withText("ah");
        x.clearBuffer();
        Check.due("count(8)", x.count(8), 0);
    }

    @Edge("Returns the length that it had.")
    static void promise11_theLengthMayBe0AndIs60AtMost() {
        ArmTolls x = new ArmTolls();
        Check.due("clearBuffer() of an empty one", x.clearBuffer(), 0);
        Check.type(x, "x".repeat(60));
        Check.due("clearBuffer() of a full one", x.clearBuffer(), 60);
        Check.due("clearBuffer() once more", x.clearBuffer(), 0);
    }

    // ---- promise 12

    @Edge("Finds the first syntax error of the buffer.")
    static void promise12_nothingIsChanged() {
        ArmTolls x = Arms.withText("a+1;?");
        long before = x.digest();
        Check.due("firstError()", x.firstError(), 4);
        Check.due("firstError() once more", x.firstError(), 4);
        Check.due("digest()", x.digest(), before);
    }

    @Edge("Returns the index of the first character that is a syntax error;")
    static void promise12_theIndexMayBe0AndIs59AtMost() {
        Check.due("firstError() of e", Arms.withText("e").firstError(), 0);
        Check.due("firstError() of 60 e", Arms.withText("e".repeat(60)).firstError(), 0);
        Check.due("firstError() of 59 right ones and x", Arms.withText("b+1;".repeat(14) + "b+1x").firstError(), 59);
    }

    @Edge("the length of the buffer if there is none.")
    static void promise12_theLengthMayBe0AndIs60AtMost() {
        Check.due("firstError() of an empty buffer", new ArmTolls().firstError(), 0);
        Check.due("firstError() of a beginning", Arms.withText("d=").firstError(), 2);
        Check.due("firstError() of 60", Arms.withText("ag;".repeat(19) + "d=9").firstError(), 60);
    }

    // ---- promise 13

    @Edge(RUN)
    static void promise13_stepsWhoseFirstOneCannotBeMadeEndIt() {
        ArmTolls x = Check.armWithPurse(1);
        Check.due("run()", Arms.typedAndRun(x, "a+1;a-1;bh"), 1);
        Check.axisIs(x, 0, 1, 1);
        Check.due("axis(1, 11)", x.axis(1, 11), 0);
    }

    @Edge(RUN)
    static void promise13_aWayWhoseFirstStepCannotBeMadeEndsIt() {
        ArmTolls x = Check.armWithPurse(1);
        Check.due("run()", Arms.typedAndRun(x, "a=1;a=2;bh"), 1);
        Check.axisIs(x, 0, 1, 1);
        Check.due("axis(1, 11)", x.axis(1, 11), 0);
    }

    @Edge(RUN)
    static void promise13_greaseThatCannotBePaidEndsIt() {
        ArmTolls x = Check.armWithPurse(29);
        Check.due("run()", Arms.typedAndRun(x, "ag;bg;bh"), 1);
        Check.due("axis(0, 5)", x.axis(0, 5), 12);
        Check.due("axis(1, 5)", x.axis(1, 5), 0);
        Check.due("axis(1, 11)", x.axis(1, 11), 0);
    }

    @Edge(RUN)
    static void promise13_homingNeverEndsIt() {
        ArmTolls x = Check.armWithPurse(3);
        x.step(0, 3);
        Check.due("run() with 0, ah does not home", Arms.typedAndRun(x, "ah;bh"), 2);
        Check.due("axis(0, 11)", x.axis(0, 11), 0);
        Check.due("axis(1, 11)", x.axis(1, 11), 1);
    }

    @Edge(RUN)
    static void promise13_stepsAndWaysThatComeToAnEndAreCarriedOut() {
        ArmTolls x = Check.armWithPurse(3);
        Check.due("run() with 3", Arms.typedAndRun(x, "a+24;bh"), 2);
        Check.axisIs(x, 0, 3, 3);
        ArmTolls y = Check.armWithPurse(3);
        Check.due("run() with 3", Arms.typedAndRun(y, "a=12;bh"), 2);
        Check.axisIs(y, 0, 3, 3);
    }

    @Edge(RUN)
    static void promise13_aBelievedPlaceIsReachedWithAnEmptyPurse() {
        ArmTolls x = Check.armWithPurse(0);
        Check.due("run() with 0", Arms.typedAndRun(x, "a=0;b=0;c=1;d=0"), 2);
    }

    @Edge("and clears the buffer.")
    static void promise13_theBufferIsClearedAlsoIfItEndsEarly() {
        ArmTolls x = Check.armWithPurse(0);
        Arms.typedAndRun(x, "ah;a+1;bh");
        Check.due("clearBuffer()", x.clearBuffer(), 0);
        Arms.typedAndRun(x, "ah;bh");
        Check.due("clearBuffer()", x.clearBuffer(), 0);
    }

    @Edge("and clears the buffer.")
    static void promise13_theBufferIsClearedAlsoIfNoCommandIsCarriedOut() {
        ArmTolls x = Check.armWithPurse(0);
        Check.due("run()", Arms.typedAndRun(x, "a+1"), 0);
        Check.due("clearBuffer()", x.clearBuffer(), 0);
    }

    @Edge("Undoable, as one call, also if no command is carried out.")
    static void promise13_20CommandsAreUndoneAsOneCall() {
        Arms.undoBringsBack(new ArmTolls(), "run()", x -> Arms.typedAndRun(x, "a+1;".repeat(14) + "b+1"));
        Arms.undoBringsBack(new ArmTolls(), "run()", x -> Arms.typedAndRun(x, "ah;".repeat(19) + "dg"));
    }

    @Edge("Undoable, as one call, also if no command is carried out.")
    static void promise13_aStateIsSavedAlsoIfNoCommandIsCarriedOut() {
        ArmTolls x = Arms.unwearing();
        x.load(0, 5);
        Arms.typedAndRun(x, "a+24;".repeat(11) + "a+24");
        Check.due("count(0), less than a toll", x.count(0), 1000 - 166 * 6);
        Check.type(x, "a+1;bh");
        Check.due("run()", x.run(), 0);
        Check.due("count(8)", x.count(8), 4);
        Arms.undoBringsBack(x, "run()", y -> Arms.typedAndRun(y, "a=7"));
    }

    @Edge("Undoable, as one call, also if no command is carried out.")
    static void promise13_ofSixSavedStatesOneIsDroppedAlsoIfNoCommandIsCarriedOut() {
        ArmTolls x = Check.armWithPurse(0);
        x.load(0, 5);
        Check.due("count(8)", x.count(8), 6);
        Arms.undoBringsBack(x, "run()", y -> Arms.typedAndRun(y, "a+1;bh"));
        Check.due("axis(0, 2)", x.axis(0, 2), 5);
        x.undo();
        Check.due("axis(0, 2) after one more undo()", x.axis(0, 2), 0);
    }

    @Edge("Returns how many commands are carried out.")
    static void promise13_theAnswerIs0To20() {
        Check.due("run() with 0", Arms.typedAndRun(Check.armWithPurse(0), "a+1;bh"), 0);
        Check.due("run() of one command", Arms.typedAndRun(new ArmTolls(), "d=0"), 1);
        Check.due("run() of 20 commands", Arms.typedAndRun(new ArmTolls(), "ah;".repeat(19) + "dh"), 20);
    }

    @Edge("Throws IllegalArgumentException if the buffer is not a complete program")
    static void promise13_anEmptyBufferIsRefused() {
        Check.refuses(new ArmTolls(), "run() of nothing", Check.ARGUMENT, x -> x.run());
        ArmTolls y = Arms.withText("ah");
        y.run();
        Check.refuses(y, "run() once more", Check.ARGUMENT, x -> x.run());
    }

    @Edge("Throws IllegalArgumentException if the buffer is not a complete program")
    static void promise13_theBeginningOfAProgramIsRefused() {
        for (String text : new String[] {"a", "a+", "a-", "a=", "ah;", "a+1;", "a=0;", "ag;b", "ag;b+", "a+24;d="}) {
            Check.refuses(Arms.withText(text), "run() of " + text, Check.ARGUMENT, x -> x.run());
        }
    }

    @Edge("Throws IllegalArgumentException if the buffer is not a complete program")
    static void promise13_aSyntaxErrorIsRefusedAndNoCommandAheadOfItIsCarriedOut() {
        for (String text : new String[] {"x", "a+1;x", "a+1;b+25", "a+1;b=24", "a+1;;b+1", "a+1!"}) {
            ArmTolls x = Arms.withText(text);
            Check.refuses(x, "run() of " + text, Check.ARGUMENT, y -> y.run());
            Check.due("count(1)", x.count(1), 0);
            Check.due("clearBuffer(), which is kept", x.clearBuffer(), text.length());
        }
    }

    @Edge("Throws IllegalArgumentException if the buffer is not a complete program")
    static void promise13_aWholeProgramOf60CharactersIsTaken() {
        Check.due("run() of 60 characters", Arms.typedAndRun(new ArmTolls(), "a+1;".repeat(14) + "b=12"), 15);
        Check.due("run() of 59 characters", Arms.typedAndRun(new ArmTolls(), "a+1;".repeat(14) + "b+9"), 15);
    }
}
