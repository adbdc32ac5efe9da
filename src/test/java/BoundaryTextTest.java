/** Promise 3: the boundary cases of the text format, just inside and just outside, each error with its position. */
public final class BoundaryTextTest {
    private static final int SYNTAX = -11, RANGE = -12, DUPLICATE = -13, ORDER = -14, COUNT = -15;
    private static final String ROWS = " 0000 0000 0000 0000";
    private static final String WIDE = " 000000000000";
    private static final String[] SETTINGS = {"window", "range", "shift", "contrast", "tolerance", "scale", "gap", "surge"};
    private static final int[] LEAST = {0, 1, 0, 0, 0, 1, 1, 0};
    private static final int[] GREATEST = {2, 4, 3, 9, 9, 1000, 999, 9999};

    public static void main(String[] args) {
        Cases.run(BoundaryTextTest.class);
    }

    /** Loads a text whose first error stands behind the sign "^", which is not part of it. */
    private static void error(String marked, int code) {
        int position = marked.indexOf('^');
        GlacierCamera x = new GlacierCamera();
        Check.equal("load of " + marked, Check.load(x, marked.replace("^", "")), code);
        Check.equal("error position in " + marked, x.errorPosition(), position);
    }

    private static GlacierCamera fine(String text, int statements) {
        GlacierCamera x = new GlacierCamera();
        Check.equal("load of " + text, Check.load(x, text), statements);
        Check.equal("error position in " + text, x.errorPosition(), -1);
        return x;
    }

    private static int setting(String text, int setting) {
        return fine(text, 1).getSetting(setting);
    }

    private static String frame(int day) {
        return "frame " + day + ROWS + ";";
    }

    // Tokens.

    @Says("Tokens are words (maximal runs of the letters a to z)")
    static void promise03_lettersAreFromAToZ() {
        fine("size 4 4;" + frame(0), 2);
        error("set gap^`5;", SYNTAX);
        error("set gap^{5;", SYNTAX);
        error("set gap^G5;", SYNTAX);
        error("set gap^_5;", SYNTAX);
        error("^Set gap 5;", SYNTAX);
    }

    @Says("Tokens are words (maximal runs of the letters a to z)")
    static void promise03_wordsAreMaximalRuns() {
        error("^setgap 5;", SYNTAX);
        error("^s et gap 5;", SYNTAX);
        error("set ^ga p 5;", SYNTAX);
        fine("set gap5;set shift2;", 2);
    }

    @Says("integers (maximal runs of decimal digits")
    static void promise03_digitsAreFrom0To9() {
        Check.equal("gap", setting("set gap 90;", GlacierCamera.GAP), 90);
        error("set gap 5^/;", SYNTAX);
        error("set gap 5^:;", SYNTAX);
        error("set gap ^/5;", SYNTAX);
        error("set gap ^-5;", SYNTAX);
        error("set gap ^+5;", SYNTAX);
    }

    @Says("integers (maximal runs of decimal digits")
    static void promise03_integersAreMaximalRuns() {
        error("size ^44;", RANGE);
        error("size 4 ^45;", RANGE);
        error("size 4 4;frame 1 0000 ^00000000 0000;", RANGE);
        error("set gap 5 ^5;", SYNTAX);
    }

    @Says("read as unsigned numbers of any length")
    static void promise03_leadingZerosOfAnyLength() {
        String zeros = "0".repeat(1300);
        Check.equal("gap", setting("set gap " + zeros + "7;", GlacierCamera.GAP), 7);
        Check.equal("surge", setting("set surge " + zeros + "9999;", GlacierCamera.SURGE), 9999);
        error("set surge ^" + zeros + "10000;", RANGE);
        error("set gap ^" + zeros + ";", RANGE);
    }

    @Says("read as unsigned numbers of any length")
    static void promise03_numbersThatWouldWrapAround() {
        error("set tolerance ^261;", RANGE);
        error("set tolerance ^65541;", RANGE);
        error("set tolerance ^2147483648;", RANGE);
        error("set tolerance ^4294967296;", RANGE);
        error("set tolerance ^4294967301;", RANGE);
        error("set tolerance ^18446744073709551616;", RANGE);
        error("set tolerance ^18446744073709551621;", RANGE);
        error("set tolerance ^340282366920938463463374607431768211461;", RANGE);
        error("set tolerance ^1" + "0".repeat(1300) + ";", RANGE);
        error("set tolerance ^" + "9".repeat(1300) + ";", RANGE);
    }

    @Says("and the character ';'")
    static void promise03_semicolonAndItsNeighbours() {
        fine("set gap 5;", 1);
        error("set gap 5^:", SYNTAX);
        error("set gap 5^<", SYNTAX);
        error("set gap 5^,", SYNTAX);
    }

    @Says("Spaces (32) and newlines (10) may stand between tokens")
    static void promise03_blanksBetweenAllTokens() {
        fine(" \n size \n 4\n\n4 \n; frame\n0 0000  0000\n0000 0000 ;\n set\ngap\n5\n;\n \n", 3);
    }

    @Says("Spaces (32) and newlines (10) may stand between tokens")
    static void promise03_noBlanksWhereTokensEndAnyway() {
        fine("size4 4;frame0 0000 0000 0000 0000;control1 1;feature1 1;stake1 1;set gap5;", 6);
    }

    @Says("Any other character is a token that is never allowed")
    static void promise03_neighboursOfBlanksAreNoBlanks() {
        for (int sign : new int[] {0, 1, 9, 11, 12, 13, 31, 33, 127, 128, 133, 160, 255}) {
            char c = (char) sign;
            error("^" + c + "set gap 5;", SYNTAX);
            error("set^" + c + "gap 5;", SYNTAX);
            error("set gap 5^" + c + ";", SYNTAX);
            error("set gap 5;^" + c, SYNTAX);
        }
    }

    @Says("Any other character is a token that is never allowed")
    static void promise03_everyOtherCharacterIsAnError() {
        for (int sign = 0; sign < 256; sign++) {
            boolean allowed = sign == ' ' || sign == '\n' || sign == ';' || sign >= '0' && sign <= '9' || sign >= 'a' && sign <= 'z';
            if (!allowed) {
                GlacierCamera x = new GlacierCamera();
                Check.equal("load with character " + sign, Check.load(x, "set gap " + (char) sign + "5;"), SYNTAX);
                Check.equal("error position of character " + sign, x.errorPosition(), 8);
            }
        }
    }

    // Statements, and the tokens that are not allowed.

    @Says("text = { statement \";\" }")
    static void promise03_emptyTextHasNoStatements() {
        fine("", 0);
        fine(" ", 0);
        fine("\n", 0);
        fine(" ".repeat(1400), 0);
    }

    @Says("text = { statement \";\" }")
    static void promise03_aStatementIsNeverEmpty() {
        error("^;", SYNTAX);
        error("set gap 5;^;", SYNTAX);
        error(" \n^;set gap 5;", SYNTAX);
    }

    @Says("text = { statement \";\" }")
    static void promise03_everyStatementThatThereCanBe() {
        StringBuilder text = new StringBuilder("size 4 4;");
        for (int i = 0; i < 6; i++) {
            text.append(frame(i)).append("feature 3 3;");
        }
        text.append("control 0 0;control 0 0;control 0 0;control 0 0;stake 0 0;stake 0 0;stake 0 0;");
        for (String name : SETTINGS) {
            text.append("set ").append(name).append(" 1;");
        }
        GlacierCamera x = fine(text.toString(), 28);
        Check.equal("frames", x.frameCount(), 6);
        Check.equal("controls", x.controlCount(), 4);
        Check.equal("features", x.featureCount(), 6);
        Check.equal("stakes", x.stakeCount(), 3);
    }

    @Says("SYNTAX_ERROR: the token is not allowed here")
    static void promise03_statementNamesWithALetterLessOrMoreOrChanged() {
        for (String name : new String[] {"size", "frame", "control", "feature", "stake", "set"}) {
            error("^" + name.substring(0, name.length() - 1) + " 4 4;", SYNTAX);
            error("^" + name.substring(1) + " 4 4;", SYNTAX);
            error("^" + name + "s 4 4;", SYNTAX);
            error("^a" + name + " 4 4;", SYNTAX);
            for (int i = 0; i < name.length(); i++) {
                error("^" + name.substring(0, i) + "q" + name.substring(i + 1) + " 4 4;", SYNTAX);
            }
        }
    }

    @Says("SYNTAX_ERROR: the token is not allowed here")
    static void promise03_settingNamesWithALetterLessOrMoreOrChanged() {
        for (String name : SETTINGS) {
            fine("set " + name + " 1;", 1);
            error("set ^" + name.substring(0, name.length() - 1) + " 1;", SYNTAX);
            error("set ^" + name.substring(1) + " 1;", SYNTAX);
            error("set ^" + name + "s 1;", SYNTAX);
            for (int i = 0; i < name.length(); i++) {
                error("set ^" + name.substring(0, i) + "q" + name.substring(i + 1) + " 1;", SYNTAX);
            }
        }
    }

    @Says("SYNTAX_ERROR: the token is not allowed here")
    static void promise03_whatIsNoStatement() {
        error("^5;", SYNTAX);
        error("^gap 5;", SYNTAX);
        error("^text;", SYNTAX);
        error("set gap 5;^0000;", SYNTAX);
    }

    @Says("\"size\" width height")
    static void promise03_sizeWithATokenLessOrMore() {
        fine("size 4 4;", 1);
        error("size^;", SYNTAX);
        error("size 4^;", SYNTAX);
        error("size 4 4 ^4;", SYNTAX);
        error("size 4 4 ^size;", SYNTAX);
        error("size ^x 4;", SYNTAX);
        error("size 4 ^x;", SYNTAX);
    }

    @Says("\"frame\" day row { row }")
    static void promise03_frameWithATokenOfTheWrongKind() {
        error("frame^;", SYNTAX);
        error("frame ^x;", SYNTAX);
        error("frame 1 ^x;", SYNTAX);
        error("size 4 4;frame 1 0000 ^x;", SYNTAX);
        error("size 4 4;frame 1" + ROWS + " ^frame 2;", SYNTAX);
        error("size 4 4;frame 1" + ROWS + "^.;", SYNTAX);
    }

    @Says("\"frame\" day row { row }")
    static void promise03_frameWithoutAnyRow() {
        error("frame 1^;", SYNTAX);
        error("size 4 4;frame 1^;", SYNTAX);
    }

    @Says("\"control\" x y | \"feature\" x y")
    static void promise03_pointWithATokenLessOrMore() {
        for (String name : new String[] {"control", "feature"}) {
            fine(name + " 1 1;", 1);
            error(name + "^;", SYNTAX);
            error(name + " 1^;", SYNTAX);
            error(name + " 1 1 ^1;", SYNTAX);
            error(name + " ^x 1;", SYNTAX);
            error(name + " 1 ^y;", SYNTAX);
        }
    }

    @Says("\"stake\" day length { day length }")
    static void promise03_stakeWithATokenLessOrMore() {
        fine("stake 1 1;", 1);
        fine("stake 1 1 2 2;", 1);
        error("stake^;", SYNTAX);
        error("stake 1^;", SYNTAX);
        error("stake 1 1 2^;", SYNTAX);
        error("stake ^x 1;", SYNTAX);
        error("stake 1 ^x;", SYNTAX);
        error("stake 1 1 ^x 2;", SYNTAX);
        error("stake 1 1 2 ^x;", SYNTAX);
        error("stake 1 1 ^stake 1 1;", SYNTAX);
    }

    @Says("\"set\" setting integer")
    static void promise03_setWithATokenLessOrMore() {
        fine("set gap 5;", 1);
        error("set^;", SYNTAX);
        error("set gap^;", SYNTAX);
        error("set gap 5 ^5;", SYNTAX);
        error("set gap ^x;", SYNTAX);
        error("set ^6 5;", SYNTAX);
        error("set ^set 5;", SYNTAX);
        error("set ^frame 5;", SYNTAX);
        error("set gap ^gap;", SYNTAX);
    }

    @Says("if the text ends too early, the position is its length")
    static void promise03_textEndsBehindEachToken() {
        String[] early = {"size", "size 4", "size 4 4", "frame", "frame 1", "size 4 4;frame 1 0000", "size 4 4;frame 1" + ROWS,
            "control", "control 1", "control 1 1", "feature", "feature 1", "feature 1 1", "stake", "stake 1", "stake 1 1",
            "stake 1 1 2", "stake 1 1 2 2", "set", "set gap", "set gap 5"};
        for (String text : early) {
            error(text + "^", SYNTAX);
            error(text + " \n ^", SYNTAX);
        }
    }

    @Says("if the text ends too early, the position is its length")
    static void promise03_textThatEndsEarlyInTheMiddleOfAToken() {
        error("^siz", SYNTAX);
        error("set ^ga", SYNTAX);
        error("set gap 1^", SYNTAX);
        error("size 4 4;frame 1 0000 ^000", RANGE);
        error("size ^1", RANGE);
    }

    @Says("if the text ends too early, the position is its length")
    static void promise03_textThatEndsBeforeBytesThatAreNotRead() {
        GlacierCamera x = new GlacierCamera();
        Check.feed(x, "set gap 12;set shift 2;");
        Check.equal("load of set gap 1", x.load(9), SYNTAX);
        Check.equal("position", x.errorPosition(), 9);
        Check.feed(x, "set gap 12;set shift 2;");
        Check.equal("load of set gap 12", x.load(10), SYNTAX);
        Check.equal("position", x.errorPosition(), 10);
        Check.feed(x, "set gap 12;set shift 2;");
        Check.equal("load of set gap 12;", x.load(11), 1);
        Check.equal("no position", x.errorPosition(), -1);
        Check.equal("gap", x.getSetting(GlacierCamera.GAP), 12);
        Check.equal("shift", x.getSetting(GlacierCamera.SHIFT), 1);
    }

    @Says("if the text ends too early, the position is its length")
    static void promise03_greatestTextThatEndsEarly() {
        GlacierCamera x = new GlacierCamera();
        Check.equal("load", Check.load(x, " ".repeat(1391) + "set gap 5"), SYNTAX);
        Check.equal("position", x.errorPosition(), 1400);
        Check.equal("load with a semicolon", Check.load(x, " ".repeat(1390) + "set gap 5;"), 1);
        Check.equal("gap", x.getSetting(GlacierCamera.GAP), 5);
    }

    // Ranges.

    @Says({"RANGE_ERROR: an integer is outside its range", "width (4 to 12 pixels, initially 12)"})
    static void promise03_widthFrom4To12() {
        error("size ^3 4;", RANGE);
        Check.equal("4", fine("size 4 4;", 1).width(), 4);
        Check.equal("12", fine("size 12 4;", 1).width(), 12);
        error("size ^13 4;", RANGE);
        error("size ^0 4;", RANGE);
    }

    @Says({"RANGE_ERROR: an integer is outside its range", "height (4 to 10 pixels, initially 8)"})
    static void promise03_heightFrom4To10() {
        error("size 4 ^3;", RANGE);
        Check.equal("4", fine("size 4 4;", 1).height(), 4);
        Check.equal("10", fine("size 4 10;", 1).height(), 10);
        error("size 4 ^11;", RANGE);
        error("size 4 ^0;", RANGE);
        error("size 12 ^11;", RANGE);
    }

    @Says({"RANGE_ERROR: an integer is outside its range", "A frame is an image taken on a day (0 to 9999)"})
    static void promise03_dayOfAFrameFrom0To9999() {
        GlacierCamera x = fine("size 4 4;" + frame(0) + frame(9999), 3);
        Check.equal("first day", x.frameDay(0), 0);
        Check.equal("last day", x.frameDay(1), 9999);
        error("size 4 4;frame ^10000" + ROWS + ";", RANGE);
    }

    @Says({"RANGE_ERROR: an integer is outside its range", "each with a day (0 to 9999)"})
    static void promise03_dayOfAReadingFrom0To9999() {
        GlacierCamera x = fine("stake 0 5 9999 6;", 1);
        Check.equal("first day", x.readingDay(0, 0), 0);
        Check.equal("last day", x.readingDay(0, 1), 9999);
        error("stake ^10000 5;", RANGE);
        error("stake 0 5 ^10000 5;", RANGE);
    }

    @Says({"RANGE_ERROR: an integer is outside its range", "a length (0 to 9999 centimeters)"})
    static void promise03_lengthOfAReadingFrom0To9999() {
        GlacierCamera x = fine("stake 1 0 2 9999;", 1);
        Check.equal("least length", x.readingLength(0, 0), 0);
        Check.equal("greatest length", x.readingLength(0, 1), 9999);
        error("stake 1 ^10000;", RANGE);
        error("stake 1 0 2 ^10000;", RANGE);
    }

    @Says({"RANGE_ERROR: an integer is outside its range", "WINDOW, the radius of a window (0 to 2, initially 1)",
        "RANGE, how far a match is searched (1 to 4 pixels, initially 2)"})
    static void promise03_settingsFromTheirLeastToTheirGreatestValue() {
        for (int i = 0; i < SETTINGS.length; i++) {
            String start = "set " + SETTINGS[i] + " ";
            Check.equal("least " + SETTINGS[i], setting(start + LEAST[i] + ";", i), LEAST[i]);
            Check.equal("greatest " + SETTINGS[i], setting(start + GREATEST[i] + ";", i), GREATEST[i]);
            error(start + "^" + (GREATEST[i] + 1) + ";", RANGE);
        }
    }

    @Says({"RANGE_ERROR: an integer is outside its range", "SCALE, the size of a pixel in millimeters (1 to 1000, initially 100)"})
    static void promise03_settingsThatMayNotBe0() {
        error("set range ^0;", RANGE);
        error("set scale ^0;", RANGE);
        error("set gap ^0;", RANGE);
        error("set gap ^000;", RANGE);
    }

    @Says({"a row does not have the right number of digits", "A row is an integer with exactly as many digits as the images have columns"})
    static void promise03_rowWithADigitLessOrMore() {
        fine("size 4 4;frame 1" + ROWS + ";", 2);
        error("size 4 4;frame 1 ^000 0000 0000 0000;", RANGE);
        error("size 4 4;frame 1 ^00000 0000 0000 0000;", RANGE);
        error("size 4 4;frame 1 0000 0000 0000 ^000;", RANGE);
        error("size 4 4;frame 1 0000 0000 0000 ^00000;", RANGE);
        error("size 4 4;frame 1 ^0 0000 0000 0000;", RANGE);
        error("size 4 4;frame 1 ^0000000000000000;", RANGE);
    }

    @Says({"a row does not have the right number of digits", "A row is an integer with exactly as many digits as the images have columns"})
    static void promise03_rowOfTheWidestImage() {
        fine("frame 1" + WIDE.repeat(8) + ";", 1);
        error("frame 1" + WIDE.repeat(7) + " ^00000000000;", RANGE);
        error("frame 1" + WIDE.repeat(7) + " ^0000000000000;", RANGE);
        fine("size 12 10;frame 1" + WIDE.repeat(10) + ";", 2);
        error("size 11 4;frame 1 ^000000000000;", RANGE);
    }

    @Says("its digits are the brightness of the pixels from left to right")
    static void promise03_digitsOfARowFromLeftToRight() {
        GlacierCamera x = fine("frame 1 012345678909 900000000000" + " 999999999999".repeat(5) + " 000000000009;", 1);
        int[] first = {0, 1, 2, 3, 4, 5, 6, 7, 8, 9, 0, 9};
        for (int i = 0; i < 12; i++) {
            Check.equal("column " + i, x.pixel(0, i, 0), first[i]);
            Check.equal("column " + i + " of row 2", x.pixel(0, i, 2), 9);
        }
        Check.equal("first of row 1", x.pixel(0, 0, 1), 9);
        Check.equal("second of row 1", x.pixel(0, 1, 1), 0);
        Check.equal("last of the last row", x.pixel(0, 11, 7), 9);
        Check.equal("last but one of the last row", x.pixel(0, 10, 7), 0);
    }

    @Says("the pixel of a control point or feature must be in the image")
    static void promise03_pointInTheCornersOfTheImage() {
        for (String name : new String[] {"control", "feature"}) {
            String start = "size 5 4;" + name;
            fine(start + " 0 0;" + name + " 4 3;" + name + " 0 3;" + name + " 4 0;", 5);
            error(start + " ^5 3;", RANGE);
            error(start + " 4 ^4;", RANGE);
            error(start + " ^5 4;", RANGE);
        }
    }

    @Says("the pixel of a control point or feature must be in the image")
    static void promise03_pointInTheInitialAndTheGreatestImage() {
        for (String name : new String[] {"control", "feature"}) {
            fine(name + " 11 7;", 1);
            error(name + " ^12 7;", RANGE);
            error(name + " 11 ^8;", RANGE);
            fine("size 12 10;" + name + " 11 9;", 2);
            error("size 12 10;" + name + " ^12 9;", RANGE);
            error("size 12 10;" + name + " 11 ^10;", RANGE);
            fine("size 4 10;" + name + " 3 9;", 2);
            error("size 4 10;" + name + " ^4 9;", RANGE);
            error("size 4 10;" + name + " 3 ^10;", RANGE);
        }
    }

    // Names that are given twice.

    @Says("DUPLICATE_ERROR: the name of a setting that was already given")
    static void promise03_eachSettingTwice() {
        for (String name : SETTINGS) {
            error("set " + name + " 1;set ^" + name + " 1;", DUPLICATE);
            error("set " + name + " 1;stake 1 1;set ^" + name + " 2;", DUPLICATE);
        }
    }

    @Says("DUPLICATE_ERROR: the name of a setting that was already given")
    static void promise03_settingTwiceIsToldBeforeItsValue() {
        error("set gap 1;set ^gap 0;", DUPLICATE);
        error("set gap 1;set ^gap", DUPLICATE);
        error("set gap 1;set ^gap gap", DUPLICATE);
    }

    @Says("DUPLICATE_ERROR: the name of a setting that was already given")
    static void promise03_eachSettingOnce() {
        StringBuilder text = new StringBuilder();
        for (String name : SETTINGS) {
            text.append("set ").append(name).append(" 1;");
        }
        fine(text.toString(), 8);
    }

    @Says("DUPLICATE_ERROR: the name of a setting that was already given")
    static void promise03_settingOfAnEarlierTextMayBeGivenAgain() {
        for (int i = 0; i < SETTINGS.length; i++) {
            String statement = "set " + SETTINGS[i] + " ";
            GlacierCamera x = fine(statement + GREATEST[i] + ";", 1);
            Check.equal("after a text", Check.load(x, statement + "1;"), 1);
            Check.equal("failed", Check.load(x, statement + "2;x"), SYNTAX);
            Check.equal("after a text with an error", Check.load(x, statement + "2;"), 1);
            Check.equal("value", x.getSetting(i), 2);
        }
    }

    // Order.

    @Says("ORDER_ERROR: the word size if the statement is not the first one of the text")
    static void promise03_sizeAsFirstAndAsSecondStatement() {
        fine(" \n size 4 4;", 1);
        for (String first : new String[] {"size 4 4;", "control 1 1;", "feature 1 1;", "stake 1 1;", "set gap 5;",
            "frame 1" + WIDE.repeat(8) + ";"}) {
            error(first + "^size 4 4;", ORDER);
        }
    }

    @Says("ORDER_ERROR: the word size if the statement is not the first one of the text")
    static void promise03_sizeThatIsNotFirstIsToldAtTheWord() {
        error("set gap 5;^size", ORDER);
        error("set gap 5;^size 3 3;", ORDER);
        error("set gap 5;^size;", ORDER);
        error("set gap 5;set shift 1;set range 1;^size 4 4;", ORDER);
    }

    @Says({"the day of a frame that is not greater than the day of the frame before", "the days of the frames ascend strictly"})
    static void promise03_dayOfAFrameEqualAndOneGreater() {
        fine("size 4 4;" + frame(5) + frame(6), 3);
        error("size 4 4;" + frame(5) + "frame ^5" + ROWS + ";", ORDER);
        error("size 4 4;" + frame(5) + "frame ^4" + ROWS + ";", ORDER);
        error("size 4 4;" + frame(0) + "frame ^0" + ROWS + ";", ORDER);
        error("size 4 4;" + frame(9999) + "frame ^9999" + ROWS + ";", ORDER);
        error("size 4 4;" + frame(9999) + "frame ^0" + ROWS + ";", ORDER);
    }

    @Says("the day of a frame that is not greater than the day of the frame before")
    static void promise03_dayOfAFrameIsComparedWithTheOneBefore() {
        error("size 4 4;" + frame(5) + "control 1 1;stake 9 9;frame ^5" + ROWS + ";", ORDER);
        error("size 4 4;" + frame(1) + frame(5) + "frame ^3" + ROWS + ";", ORDER);
        fine("size 4 4;" + frame(5) + "stake 9 9;" + frame(6), 4);
        GlacierCamera x = fine("size 4 4;" + frame(5), 2);
        Check.equal("days of an earlier text", Check.load(x, "size 4 4;" + frame(0)), 2);
    }

    @Says("the day of a reading that is not greater than the day of the reading before")
    static void promise03_dayOfAReadingEqualAndOneGreater() {
        fine("stake 5 1 6 1;", 1);
        error("stake 5 1 ^5 1;", ORDER);
        error("stake 5 1 ^4 1;", ORDER);
        error("stake 0 1 ^0 1;", ORDER);
        error("stake 5 1 6 1 ^6 1;", ORDER);
        error("stake 4 1 6 1 ^5 1;", ORDER);
        error("stake 5 1 ^5", ORDER);
    }

    @Says("the day of a reading that is not greater than the day of the reading before")
    static void promise03_daysOfDifferentStakesAreFree() {
        fine("stake 5 1 6 1;stake 5 1;stake 0 1;", 3);
    }

    // Counts.

    @Says({"COUNT_ERROR: the word frame of a seventh frame", "There are at most 6 frames, indexed from 0"})
    static void promise03_sixFramesAndASeventh() {
        String six = "size 4 4;" + frame(1) + frame(2) + frame(3) + frame(4) + frame(5) + frame(6);
        Check.equal("frames", fine(six, 7).frameCount(), 6);
        error(six + "^frame 7" + ROWS + ";", COUNT);
        error(six + "^frame", COUNT);
        error(six + "^frame 0 x", COUNT);
        error(six + "stake 1 1;^frame;", COUNT);
    }

    @Says({"control of a fifth control point", "There are at most 4 control points, each a pixel"})
    static void promise03_fourControlPointsAndAFifth() {
        String four = "control 1 1;".repeat(4);
        Check.equal("control points", fine(four, 4).controlCount(), 4);
        error(four + "^control 1 1;", COUNT);
        error(four + "^control", COUNT);
        error(four + "^control 99 x", COUNT);
    }

    @Says({"feature of a seventh feature", "There are at most 6 features, indexed from 0"})
    static void promise03_sixFeaturesAndASeventh() {
        String six = "feature 1 1;".repeat(6);
        Check.equal("features", fine(six, 6).featureCount(), 6);
        error(six + "^feature 1 1;", COUNT);
        error(six + "^feature", COUNT);
        fine("control 1 1;".repeat(4) + six, 10);
        error("control 1 1;".repeat(4) + six + "^feature 1 1;", COUNT);
    }

    @Says({"stake of a fourth stake", "There are at most 3 stakes, indexed from 0"})
    static void promise03_threeStakesAndAFourth() {
        String three = "stake 1 1;".repeat(3);
        Check.equal("stakes", fine(three, 3).stakeCount(), 3);
        error(three + "^stake 1 1;", COUNT);
        error(three + "^stake", COUNT);
    }

    @Says({"a row that is one too many", "A frame has as many rows as the images have"})
    static void promise03_frameWithARowTooMany() {
        fine("size 4 4;frame 1" + ROWS + ";", 2);
        error("size 4 4;frame 1" + ROWS + " ^0000;", COUNT);
        error("size 4 4;frame 1" + ROWS + " ^0000", COUNT);
        error("size 4 4;frame 1" + ROWS + " ^0000 0000;", COUNT);
        error("frame 1" + WIDE.repeat(8) + " ^000000000000;", COUNT);
        error("size 12 10;frame 1" + WIDE.repeat(10) + " ^000000000000;", COUNT);
    }

    @Says({"the \";\" of a frame with too few rows", "A frame has as many rows as the images have"})
    static void promise03_frameWithARowTooFew() {
        error("size 4 4;frame 1 0000 0000 0000^;", COUNT);
        error("size 4 4;frame 1 0000 0000 0000 \n ^;", COUNT);
        error("size 4 4;frame 1 0000^;", COUNT);
        error("frame 1" + WIDE.repeat(7) + "^;", COUNT);
        error("size 12 10;frame 1" + WIDE.repeat(9) + "^;", COUNT);
    }

    @Says("the \";\" of a frame with too few rows")
    static void promise03_frameWithTooFewRowsAndNoSemicolon() {
        error("size 4 4;frame 1 0000 0000 0000 ^frame", SYNTAX);
        error("size 4 4;frame 1 0000 0000 0000^", SYNTAX);
    }

    @Says({"the day of a ninth reading of a stake", "A stake has at most 8 readings, indexed from 0"})
    static void promise03_eightReadingsAndANinth() {
        String eight = "stake 0 0 1 0 2 0 3 0 4 0 5 0 6 0 7 0";
        Check.equal("readings", fine(eight + ";", 1).readingCount(0), 8);
        error(eight + " ^8 0;", COUNT);
        error(eight + " ^8;", COUNT);
        error(eight + " ^8", COUNT);
        error(eight + " ^9999 10000", COUNT);
        fine(eight + ";" + eight + ";" + eight + ";", 3);
        error(eight + ";" + eight + ";" + eight + " ^8 0;", COUNT);
    }

    // More than one error.

    @Says("The first error in the order of the text is reported, at the position of the first character of its token")
    static void promise03_firstOfTwoErrorsInTheText() {
        error("set gap ^0;size 4 4;", RANGE);
        error("set gap 1;^size 3 3;?", ORDER);
        error("control ^99 99;", RANGE);
        error("set gap 1;set ^gap 0 ?", DUPLICATE);
        error("size 4 4;frame 1 ^00000 000 ?", RANGE);
        error("stake 5 1 ^5 10000;", ORDER);
        error("^? size 4 4;", SYNTAX);
    }

    @Says("If several errors apply to one token, the one listed first is reported")
    static void promise03_rowTooManyWithWrongNumberOfDigits() {
        error("size 4 4;frame 1" + ROWS + " ^000;", RANGE);
        error("size 4 4;frame 1" + ROWS + " ^00000;", RANGE);
    }

    @Says("If several errors apply to one token, the one listed first is reported")
    static void promise03_ninthDayOutOfRangeOrOutOfOrder() {
        String eight = "stake 0 0 1 0 2 0 3 0 4 0 5 0 6 0 7 0";
        error(eight + " ^10000 0;", RANGE);
        error(eight + " ^7 0;", ORDER);
        error(eight + " ^6 0;", ORDER);
        error(eight + " ^x 0;", SYNTAX);
    }

    @Says("If several errors apply to one token, the one listed first is reported")
    static void promise03_semicolonOfAFrameWithoutAnyRow() {
        error("size 4 4;frame 1 ^;", SYNTAX);
    }
}
