/** Promises 1 to 12: the boundary cases of a new object, the buffer, load's length and effect, counts and settings. */
public final class BoundaryLoadTest {
    private static final int NOT_FOUND = -1, BAD_VALUE = -2, FULL = -3, SYNTAX = -11;
    private static final int BLANKS = 0x20202020;
    private static final String ROWS = " 0000 0000 0000 0000;";
    private static final int[] INITIAL = {1, 2, 1, 2, 2, 100, 10, 50};
    private static final int[] LEAST = {0, 1, 0, 0, 0, 1, 1, 0};
    private static final int[] GREATEST = {2, 4, 3, 9, 9, 1000, 999, 9999};
    private static final int[] NO_INDICES = {-1, Integer.MIN_VALUE, Integer.MAX_VALUE};

    public static void main(String[] args) {
        Cases.run(BoundaryLoadTest.class);
    }

    private static int feedBlanks(GlacierCamera x) {
        return x.feed(BLANKS, BLANKS, BLANKS, BLANKS, BLANKS);
    }

    private static void initialSettings(GlacierCamera x) {
        for (int i = 0; i < 8; i++) {
            Check.equal("initial setting " + i, x.getSetting(i), INITIAL[i]);
        }
    }

    private static void initialSize(GlacierCamera x) {
        Check.equal("initial width", x.width(), 12);
        Check.equal("initial height", x.height(), 8);
    }

    private static void empty(GlacierCamera x) {
        Check.equal("frames", x.frameCount(), 0);
        Check.equal("control points", x.controlCount(), 0);
        Check.equal("features", x.featureCount(), 0);
        Check.equal("stakes", x.stakeCount(), 0);
    }

    // Promise 1.

    @Says("Creates an analyzer without frames, control points, features and stakes")
    static void promise01_newObjectHasNothing() {
        GlacierCamera x = new GlacierCamera();
        empty(x);
        Check.equal("reference frame", x.referenceFrame(), NOT_FOUND);
        Check.outOfBounds("frame 0", () -> x.frameDay(0));
        Check.outOfBounds("feature 0", () -> x.lostCount(0));
        Check.outOfBounds("stake 0", () -> x.readingCount(0));
    }

    @Says({"with initial settings", "SETTINGS, with their ranges and initial values",
        "(4 to 12 pixels, initially 12) and height (4 to 10 pixels, initially 8)"})
    static void promise01_newObjectHasInitialSettingsAndSize() {
        initialSettings(new GlacierCamera());
        initialSize(new GlacierCamera());
    }

    @Says("an empty input buffer")
    static void promise01_newObjectHasAnEmptyBuffer() {
        GlacierCamera x = new GlacierCamera();
        Check.equal("load(1)", x.load(1), BAD_VALUE);
        Check.equal("load(0)", x.load(0), 0);
        Check.equal("first feed", feedBlanks(new GlacierCamera()), 20);
    }

    @Says("no changes to undo")
    static void promise01_newObjectHasNothingToUndo() {
        GlacierCamera x = new GlacierCamera();
        Check.equal("undoCount", x.undoCount(), 0);
        Check.equal("undo", x.undo(), NOT_FOUND);
    }

    @Says("An object is used for at most 512 calls after it has been made")
    static void promise01_the512thCallStillAnswers() {
        GlacierCamera x = new GlacierCamera();
        for (int i = 1; i < 512; i++) {
            Check.equal("call " + i, x.setSetting(GlacierCamera.SURGE, i), i == 1 ? 50 : i - 1);
        }
        Check.equal("call 512", x.undo(), 9);
    }

    @Says("Creates an analyzer")
    static void promise01_objectsShareNothing() {
        GlacierCamera x = new GlacierCamera();
        GlacierCamera y = new GlacierCamera();
        Check.load(x, "size 4 4;set gap 5;stake 1 1;frame 1" + ROWS);
        x.setSetting(GlacierCamera.SURGE, 1);
        feedBlanks(x);
        Check.load(x, "?");
        feedBlanks(x);
        Check.equal("the other one", State.andPast(y), State.andPast(new GlacierCamera()));
    }

    // Promise 2.

    @Says({"Appends 20 bytes to the input buffer", "Returns the new number of bytes in the buffer"})
    static void promise02_each20BytesUpTo1400() {
        GlacierCamera x = new GlacierCamera();
        for (int i = 1; i <= 70; i++) {
            Check.equal("feed " + i, feedBlanks(x), 20 * i);
        }
        Check.equal("load of all", x.load(1400), 0);
    }

    @Says("FULL if the buffer would hold more than 1400 bytes (nothing is appended then)")
    static void promise02_feedBeyond1400IsFullAndAppendsNothing() {
        GlacierCamera x = new GlacierCamera();
        Check.equal("the 70th feed", Check.feed(x, " ".repeat(1390) + "set gap 7;"), 1400);
        Check.equal("the 71st feed", x.feed(0x3f3f3f3f, 0x3f3f3f3f, 0x3f3f3f3f, 0x3f3f3f3f, 0x3f3f3f3f), FULL);
        Check.equal("the 72nd feed", feedBlanks(x), FULL);
        Check.equal("load of more than was fed", x.load(1401), BAD_VALUE);
        Check.equal("load of 1420", x.load(1420), BAD_VALUE);
        Check.equal("load of all", x.load(1400), 1);
        Check.equal("gap", x.getSetting(GlacierCamera.GAP), 7);
    }

    @Says("FULL if the buffer would hold more than 1400 bytes (nothing is appended then)")
    static void promise02_fullOnlyWhenNotAll20BytesFit() {
        Refusal.refused("feed at 1400", () -> {
            GlacierCamera x = Refusal.prepared();
            for (int i = 0; i < 68; i++) {
                feedBlanks(x);
            }
            Check.equal("feed up to 1400", feedBlanks(x), 1400);
            return x;
        }, BoundaryLoadTest::feedBlanks, FULL);
        GlacierCamera y = new GlacierCamera();
        Check.equal("feed up to 1380", Check.feed(y, " ".repeat(1380)), 1380);
        Check.equal("feed up to 1400", feedBlanks(y), 1400);
    }

    @Says("Appends 20 bytes to the input buffer")
    static void promise02_emptiedBufferTakes1400BytesAgain() {
        GlacierCamera x = new GlacierCamera();
        Check.feed(x, " ".repeat(1400));
        Check.equal("feed", feedBlanks(x), FULL);
        Check.equal("load", x.load(3), 0);
        Check.equal("1400 bytes again", Check.feed(x, " ".repeat(1400)), 1400);
        Check.equal("feed again", feedBlanks(x), FULL);
        Check.equal("load of all", x.load(1400), 0);
    }

    @Says({"the four bytes of each parameter, most significant byte first", "first four bytes", "last four bytes"})
    static void promise02_eachByteAtItsPlace() {
        GlacierCamera x = new GlacierCamera();
        int[] words = {0x20202020, 0x20202020, 0x20202020, 0x20202020, 0x20202020};
        for (int i = 0; i < 20; i++) {
            int[] marked = words.clone();
            marked[i / 4] ^= (0x20 ^ 0x3f) << 24 - 8 * (i % 4);
            x.feed(marked[0], marked[1], marked[2], marked[3], marked[4]);
            Check.equal("load with a mark at " + i, x.load(20), SYNTAX);
            Check.equal("position of the mark at " + i, x.errorPosition(), i);
        }
    }

    @Says("the four bytes of each parameter, most significant byte first")
    static void promise02_bytesAbove127AreOtherCharacters() {
        GlacierCamera x = new GlacierCamera();
        for (int word : new int[] {-1, Integer.MIN_VALUE, 0x80808080, 0xa0a0a0a0, 0xbbbbbbbb, 0x8a8a8a8a}) {
            x.feed(BLANKS, word, BLANKS, BLANKS, BLANKS);
            Check.equal("load with " + word, x.load(20), SYNTAX);
            Check.equal("position of " + word, x.errorPosition(), 4);
        }
        // "set gap 5;", each letter with the greatest bit set.
        x.feed(0xf3e5f420, 0x67617020, 0x353b2020, BLANKS, BLANKS);
        Check.equal("letters with the greatest bit set", x.load(10), SYNTAX);
        Check.equal("their position", x.errorPosition(), 0);
        x.feed(0x73657420, 0x67617020, 0xb53b2020, BLANKS, BLANKS);
        Check.equal("a digit with the greatest bit set", x.load(10), SYNTAX);
        Check.equal("its position", x.errorPosition(), 8);
    }

    // Promise 3: the length, and what load replaces.

    @Says("number of bytes to read, from 0 to the number of bytes in the buffer")
    static void promise03_length0() {
        GlacierCamera x = Refusal.prepared();
        Check.equal("load(0)", x.load(0), 0);
        empty(x);
        initialSettings(x);
        initialSize(x);
        Check.equal("undoCount", x.undoCount(), 0);
        Check.equal("errorPosition", x.errorPosition(), NOT_FOUND);
        Check.equal("the buffer is empty", feedBlanks(x), 20);
    }

    @Says("number of bytes to read, from 0 to the number of bytes in the buffer")
    static void promise03_lengthOfTheWholeBuffer() {
        GlacierCamera x = new GlacierCamera();
        Check.equal("feed", Check.feed(x, "set gap 7;set gap 8;"), 20);
        Check.equal("load(20)", x.load(20), -13);
        Check.equal("feed", Check.feed(x, "set gap 7;set surge 9;"), 40);
        Check.equal("load(40)", x.load(40), 2);
    }

    @Says({"BAD_VALUE if length is out of range (the buffer is unchanged then)",
        "number of bytes to read, from 0 to the number of bytes in the buffer"})
    static void promise03_lengthOneOutsideIsBadValue() {
        Refusal.refused("load(21) of 20 bytes", x -> x.load(21), BAD_VALUE);
        Refusal.refused("load(-1)", x -> x.load(-1), BAD_VALUE);
        for (int length : NO_INDICES) {
            Refusal.refused("load(" + length + ")", x -> x.load(length), BAD_VALUE);
        }
        Refusal.refused("load(1) of no bytes", GlacierCamera::new, x -> x.load(1), BAD_VALUE);
        Refusal.refused("load(1401)", x -> x.load(1401), BAD_VALUE);
    }

    @Says("what the first length bytes of the input buffer describe (see TEXT FORMAT) and empties the buffer")
    static void promise03_bytesBehindTheLengthAreEmptiedUnread() {
        GlacierCamera x = new GlacierCamera();
        Check.feed(x, "set gap 7;set gap 8?");
        Check.equal("load(10)", x.load(10), 1);
        Check.equal("gap", x.getSetting(GlacierCamera.GAP), 7);
        Check.equal("load(1)", x.load(1), BAD_VALUE);
        Check.equal("feed", feedBlanks(x), 20);
        Check.equal("load of blanks", x.load(20), 0);
    }

    @Says("What the text does not give has its initial value")
    static void promise03_whatIsNotGivenIsInitialAgain() {
        GlacierCamera x = Refusal.changed();
        for (int i = 0; i < 8; i++) {
            x.setSetting(i, GREATEST[i]);
        }
        Check.equal("load", Check.load(x, "stake 1 1;"), 1);
        initialSettings(x);
        initialSize(x);
        Check.equal("frames", x.frameCount(), 0);
        Check.equal("control points", x.controlCount(), 0);
        Check.equal("features", x.featureCount(), 0);
        Check.equal("stakes", x.stakeCount(), 1);
    }

    @Says("What the text does not give has its initial value")
    static void promise03_whatAFailedTextGaveIsNotKept() {
        GlacierCamera x = new GlacierCamera();
        Check.equal("failed", Check.load(x, "size 4 4;set gap 7;stake 1 1 2 2;control 1 1;feature 1 1;frame 1" + ROWS + "?"), SYNTAX);
        Check.equal("next", Check.load(x, " "), 0);
        empty(x);
        initialSettings(x);
        initialSize(x);
        Check.equal("failed", Check.load(x, "size 4 4;set gap 7;stake 1 1 2 2;control 1 1;feature 1 1;frame 1" + ROWS + "?"), SYNTAX);
        Check.equal("next with one of each", Check.load(x, "stake 5 5;control 1 1;feature 1 1;"), 3);
        Check.equal("readings", x.readingCount(0), 1);
        initialSettings(x);
    }

    @Says("What the text does not give has its initial value")
    static void promise03_settingsThatEarlierTextsGave() {
        StringBuilder all = new StringBuilder();
        String[] names = {"window", "range", "shift", "contrast", "tolerance", "scale", "gap", "surge"};
        for (int i = 0; i < 8; i++) {
            all.append("set ").append(names[i]).append(' ').append(GREATEST[i]).append(';');
        }
        GlacierCamera x = new GlacierCamera();
        for (int i = 0; i < 3; i++) {
            Check.equal("all settings", Check.load(x, all.toString()), 8);
            Check.equal("none", Check.load(x, " "), 0);
            initialSettings(x);
            Check.equal("all settings, with an error", Check.load(x, all + "?"), SYNTAX);
            initialSettings(x);
            Check.equal("none", Check.load(x, "size 4 4;"), 1);
            initialSettings(x);
        }
    }

    @Says("Replaces everything by what the first length bytes")
    static void promise03_loadAfterQuestions() {
        GlacierCamera x = new GlacierCamera();
        Check.equal("fastest of none", x.fastestFeature(), NOT_FOUND);
        Check.equal("reference frame of none", x.referenceFrame(), NOT_FOUND);
        String start = "size 4 4;set window 0;control 1 1;feature 1 1;";
        Check.load(x, start + "frame 1 0000 0900 0000 0000;frame 2 0000 0090 0000 0000;");
        Check.equal("first text: shiftX", x.shiftX(1), 1);
        Check.equal("first text: trackX", x.trackX(0, 1), 2);
        Check.load(x, start + "frame 1 0000 0900 0000 0000;frame 2 0900 0000 0000 0000;");
        Check.equal("second text: shiftX", x.shiftX(1), 0);
        Check.equal("second text: shiftY", x.shiftY(1), -1);
        Check.equal("second text: trackX", x.trackX(0, 1), 1);
        Check.load(x, start + "frame 1 0000 0000 0000 0000;frame 2 0900 0000 0000 0000;");
        Check.equal("third text: isOriented", x.isOriented(0), false);
        Check.equal("third text: trackX", x.trackX(0, 0), NOT_FOUND);
    }

    @Says("Replaces everything by what the first length bytes")
    static void promise03_sameTextTwice() {
        String text = "size 4 4;set gap 7;stake 1 1 2 2;control 1 1;feature 1 1;frame 1 0120 0000 0000 0000;";
        GlacierCamera x = Check.loaded(text);
        x.setPixel(0, 0, 0, 9);
        x.moveFeature(0, 2, 2);
        x.addReading(0, 3, 3);
        Check.equal("again", Check.load(x, text), 6);
        Check.equal("state", State.andPast(x), State.andPast(Check.loaded(text)));
    }

    @Says("After a successful load nothing can be undone")
    static void promise03_successfulLoadLeavesNothingToUndo() {
        GlacierCamera x = new GlacierCamera();
        for (int i = 0; i < 10; i++) {
            x.setSetting(GlacierCamera.GAP, 20 + i);
        }
        Check.equal("undoCount", x.undoCount(), 10);
        Check.equal("load", x.load(0), 0);
        Check.equal("undoCount after load", x.undoCount(), 0);
        Check.equal("undo", x.undo(), NOT_FOUND);
        Check.equal("gap", x.getSetting(GlacierCamera.GAP), 10);
        x.setSetting(GlacierCamera.GAP, 99);
        Check.equal("undo of a change after it", x.undo(), 0);
        Check.equal("gap", x.getSetting(GlacierCamera.GAP), 10);
    }

    @Says({"If the text has an error, nothing but the buffer changes: it is emptied all the same",
        "SYNTAX_ERROR, RANGE_ERROR, DUPLICATE_ERROR, ORDER_ERROR or COUNT_ERROR"})
    static void promise03_eachErrorChangesNothingButTheBuffer() {
        String start = "size 5 5;set surge 1;stake 0 0;control 2 2;feature 2 2;frame 1 00000 00000 00900 00000 00000;";
        String[] wrong = {"?", "stake 10000", "set surge 1;", "size 4 4;", "frame 3 00000;"};
        for (int i = 0; i < wrong.length; i++) {
            String text = start + wrong[i];
            GlacierCamera x = Refusal.changed();
            Check.equal("load with " + wrong[i], Check.load(x, start + wrong[i]), SYNTAX - i);
            Check.equal("position with " + wrong[i], x.errorPosition() >= start.length(), true);
            Check.equal("load(1) of the emptied buffer", x.load(1), BAD_VALUE);
            Check.equal("state after " + wrong[i], State.andPast(x), State.andPast(Refusal.changed()));
        }
    }

    @Says("it is emptied all the same")
    static void promise03_bufferIsEmptyAfterAnError() {
        GlacierCamera x = new GlacierCamera();
        Check.feed(x, "? set gap 5; set gap 6;");
        Check.equal("load(1)", x.load(1), SYNTAX);
        Check.equal("load(1) again", x.load(1), BAD_VALUE);
        Check.equal("feed", Check.feed(x, "set gap 7;"), 20);
        Check.equal("load(10)", x.load(10), 1);
        Check.equal("gap", x.getSetting(GlacierCamera.GAP), 7);
    }

    // Promise 4.

    @Says("NOT_FOUND if that load had no error or there was none")
    static void promise04_noLoadAndNoError() {
        GlacierCamera x = new GlacierCamera();
        Check.equal("no load", x.errorPosition(), NOT_FOUND);
        x.load(1);
        Check.equal("BAD_VALUE alone", x.errorPosition(), NOT_FOUND);
        x.load(0);
        Check.equal("no error", x.errorPosition(), NOT_FOUND);
    }

    @Says("NOT_FOUND if that load had no error or there was none")
    static void promise04_loadWithoutAnErrorAfterOneWithAnError() {
        GlacierCamera x = new GlacierCamera();
        Check.load(x, "set gap 0;");
        Check.equal("error", x.errorPosition(), 8);
        Check.load(x, "set gap 1;");
        Check.equal("no error", x.errorPosition(), NOT_FOUND);
        Check.load(x, "set gap 0;");
        x.load(0);
        Check.equal("load(0)", x.errorPosition(), NOT_FOUND);
    }

    @Says("Returns the position of the error of the latest load that did not return BAD_VALUE")
    static void promise04_badValueKeepsThePosition() {
        GlacierCamera x = new GlacierCamera();
        Check.load(x, "set gap 0;");
        Check.equal("load(-1)", x.load(-1), BAD_VALUE);
        Check.equal("load(1)", x.load(1), BAD_VALUE);
        Check.equal("after BAD_VALUE", x.errorPosition(), 8);
        Check.load(x, "set gap 1;");
        Check.equal("load(1)", x.load(1), BAD_VALUE);
        Check.equal("after BAD_VALUE and no error", x.errorPosition(), NOT_FOUND);
    }

    @Says("Returns the position of the error of the latest load that did not return BAD_VALUE")
    static void promise04_latestOfTwoErrors() {
        GlacierCamera x = new GlacierCamera();
        Check.load(x, "set gap 0;");
        Check.load(x, "set ?");
        Check.equal("after two errors", x.errorPosition(), 4);
        x.setSetting(GlacierCamera.GAP, 3);
        x.undo();
        feedBlanks(x);
        Check.equal("after other calls", x.errorPosition(), 4);
    }

    @Says("Returns the position in bytes from the start of the text")
    static void promise04_positionsFrom0To1400() {
        GlacierCamera x = new GlacierCamera();
        Check.load(x, "?");
        Check.equal("first byte", x.errorPosition(), 0);
        Check.load(x, " \n?");
        Check.equal("blanks count", x.errorPosition(), 2);
        Check.load(x, " ".repeat(1399) + "?");
        Check.equal("last byte", x.errorPosition(), 1399);
        Check.load(x, " ".repeat(1397) + "set");
        Check.equal("behind the last byte", x.errorPosition(), 1400);
    }

    // Promises 5 to 10.

    @Says({"Returns 4 to 12", "(4 to 12 pixels, initially 12)"})
    static void promise05_widthFrom4To12() {
        Check.equal("initially", new GlacierCamera().width(), 12);
        for (int width = 4; width <= 12; width++) {
            Check.equal("width", Check.loaded("size " + width + " 9;").width(), width);
        }
        GlacierCamera x = Check.loaded("size 4 9;");
        Check.load(x, "size 13 9;");
        Check.equal("after a load with an error", x.width(), 4);
        Check.load(x, "size 7 11;");
        Check.equal("after an error behind the width", x.width(), 4);
    }

    @Says({"Returns 4 to 10", "height (4 to 10 pixels, initially 8)"})
    static void promise06_heightFrom4To10() {
        Check.equal("initially", new GlacierCamera().height(), 8);
        for (int height = 4; height <= 10; height++) {
            Check.equal("height", Check.loaded("size 12 " + height + ";").height(), height);
        }
        GlacierCamera x = Check.loaded("size 9 4;");
        Check.load(x, "size 9 11;");
        Check.equal("after a load with an error", x.height(), 4);
        Check.load(x, "size 9 7;?");
        Check.equal("after an error behind the height", x.height(), 4);
    }

    @Says({"Returns 0 to 6", "There are at most 6 frames, indexed from 0"})
    static void promise07_frameCountFrom0To6() {
        StringBuilder text = new StringBuilder("size 4 4;");
        for (int i = 0; i <= 6; i++) {
            Check.equal(i + " frames", Check.loaded(text.toString()).frameCount(), i);
            text.append("frame ").append(i).append(ROWS);
        }
        GlacierCamera x = Check.loaded("size 4 4;frame 1" + ROWS + "frame 2" + ROWS);
        Check.load(x, text.toString());
        Check.equal("after a load of seven", x.frameCount(), 2);
        x.removeFrame(0);
        Check.equal("after removeFrame", x.frameCount(), 1);
        x.removeFrame(0);
        Check.equal("after the last removeFrame", x.frameCount(), 0);
        x.undo();
        Check.equal("after undo", x.frameCount(), 1);
    }

    @Says({"Returns 0 to 4", "There are at most 4 control points, each a pixel"})
    static void promise08_controlCountFrom0To4() {
        for (int i = 0; i <= 4; i++) {
            Check.equal(i + " control points", Check.loaded("control 1 1;".repeat(i)).controlCount(), i);
        }
        GlacierCamera x = Check.loaded("control 1 1;");
        Check.load(x, "control 1 1;".repeat(5));
        Check.equal("after a load of five", x.controlCount(), 1);
    }

    @Says({"Returns 0 to 6", "There are at most 6 features, indexed from 0"})
    static void promise09_featureCountFrom0To6() {
        for (int i = 0; i <= 6; i++) {
            Check.equal(i + " features", Check.loaded("feature 1 1;".repeat(i)).featureCount(), i);
        }
        GlacierCamera x = Check.loaded("feature 1 1;");
        Check.load(x, "feature 1 1;".repeat(7));
        Check.equal("after a load of seven", x.featureCount(), 1);
    }

    @Says({"Returns 0 to 3", "There are at most 3 stakes, indexed from 0"})
    static void promise10_stakeCountFrom0To3() {
        for (int i = 0; i <= 3; i++) {
            Check.equal(i + " stakes", Check.loaded("stake 1 1;".repeat(i)).stakeCount(), i);
        }
        GlacierCamera x = Check.loaded("stake 1 1;");
        Check.load(x, "stake 1 1;".repeat(4));
        Check.equal("after a load of four", x.stakeCount(), 1);
        x.removeReading(0, 1);
        Check.equal("a stake without readings counts", x.stakeCount(), 1);
    }

    // Promises 11 and 12.

    @Says("BAD_VALUE if setting is none of these")
    static void promise11_settingsFrom0To7() {
        GlacierCamera x = new GlacierCamera();
        initialSettings(x);
        Check.equal("first", x.getSetting(GlacierCamera.WINDOW), 1);
        Check.equal("last", x.getSetting(GlacierCamera.SURGE), 50);
        Refusal.refused("getSetting(8)", y -> y.getSetting(8), BAD_VALUE);
        for (int setting : NO_INDICES) {
            Refusal.refused("getSetting(" + setting + ")", y -> y.getSetting(setting), BAD_VALUE);
        }
    }

    private static void range(int setting) {
        GlacierCamera x = new GlacierCamera();
        Check.equal("set the least", x.setSetting(setting, LEAST[setting]), INITIAL[setting]);
        Check.equal("the least", x.getSetting(setting), LEAST[setting]);
        Check.equal("set the greatest", x.setSetting(setting, GREATEST[setting]), LEAST[setting]);
        Check.equal("the greatest", x.getSetting(setting), GREATEST[setting]);
        int[] wrong = {LEAST[setting] - 1, GREATEST[setting] + 1, Integer.MIN_VALUE, Integer.MAX_VALUE};
        for (int value : wrong) {
            Refusal.refused("setSetting(" + setting + ", " + value + ")", y -> y.setSetting(setting, value), BAD_VALUE);
        }
    }

    @Says({"BAD_VALUE if setting is none of these or value is out of its range", "WINDOW, the radius of a window (0 to 2, initially 1)"})
    static void promise12_windowFrom0To2() {
        range(GlacierCamera.WINDOW);
    }

    @Says("RANGE, how far a match is searched (1 to 4 pixels, initially 2)")
    static void promise12_rangeFrom1To4() {
        range(GlacierCamera.RANGE);
    }

    @Says("SHIFT, the greatest shift of the camera (0 to 3 pixels, initially 1)")
    static void promise12_shiftFrom0To3() {
        range(GlacierCamera.SHIFT);
    }

    @Says("CONTRAST, the contrast that a usable frame needs (0 to 9, initially 2)")
    static void promise12_contrastFrom0To9() {
        range(GlacierCamera.CONTRAST);
    }

    @Says("TOLERANCE, the mismatch per pixel up to which a feature is tracked (0 to 9, initially 2)")
    static void promise12_toleranceFrom0To9() {
        range(GlacierCamera.TOLERANCE);
    }

    @Says("SCALE, the size of a pixel in millimeters (1 to 1000, initially 100)")
    static void promise12_scaleFrom1To1000() {
        range(GlacierCamera.SCALE);
    }

    @Says("GAP, the number of days between two frames that is not yet a gap (1 to 999, initially 10)")
    static void promise12_gapFrom1To999() {
        range(GlacierCamera.GAP);
    }

    @Says("SURGE, the speed that makes a surge (0 to 9999 millimeters per day, initially 50)")
    static void promise12_surgeFrom0To9999() {
        range(GlacierCamera.SURGE);
    }

    @Says("BAD_VALUE if setting is none of these or value is out of its range")
    static void promise12_noSuchSetting() {
        Refusal.refused("setSetting(8, 1)", x -> x.setSetting(8, 1), BAD_VALUE);
        for (int setting : NO_INDICES) {
            Refusal.refused("setSetting(" + setting + ", 1)", x -> x.setSetting(setting, 1), BAD_VALUE);
            Refusal.refused("setSetting(" + setting + ", " + setting + ")", x -> x.setSetting(setting, setting), BAD_VALUE);
        }
    }

    @Says({"Returns the previous value", "Setting a value that is already set is also a change"})
    static void promise12_previousValueOfTheSameValue() {
        GlacierCamera x = new GlacierCamera();
        for (int i = 0; i < 8; i++) {
            Check.equal("setting " + i + " to what it is", x.setSetting(i, INITIAL[i]), INITIAL[i]);
            Check.equal("is a change", x.undoCount(), i + 1);
        }
        initialSettings(x);
    }

    @Says("Sets a setting")
    static void promise12_eachSettingAlone() {
        for (int i = 0; i < 8; i++) {
            GlacierCamera x = new GlacierCamera();
            x.setSetting(i, 1);
            for (int j = 0; j < 8; j++) {
                Check.equal("setting " + j + " when " + i + " was set", x.getSetting(j), j == i ? 1 : INITIAL[j]);
            }
        }
    }
}
