/** Promises 33 to 43: the boundary cases of segments, speeds, surges, positions and moved features. */
public final class BoundarySpeedTest {
    private static final int NOT_FOUND = -1, BAD_VALUE = -2;
    private static final int[] NO_INDICES = {-1, Integer.MIN_VALUE, Integer.MAX_VALUE};

    public static void main(String[] args) {
        Cases.run(BoundarySpeedTest.class);
    }

    /** A feature whose dot stands on given days at given pixels: triples of day, column and row; column -1 for no dot. */
    private static GlacierCamera moving(String statements, int... places) {
        StringBuilder text = new StringBuilder("size 12 10;set window 0;set range 4;").append(statements);
        text.append("feature ").append(places[1]).append(' ').append(places[2]).append(';');
        for (int i = 0; i + 2 < places.length; i += 3) {
            boolean dot = places[i + 1] >= 0;
            text.append(dot ? Scenes.frame(12, 10, places[i], places[i + 1], places[i + 2], 9, 11, 9, 5)
                : Scenes.frame(12, 10, places[i], 11, 9, 5));
        }
        return Check.loaded(text.toString());
    }

    /** Six frames, a day apart, in which the feature moves by the given columns. */
    private static GlacierCamera steps(int... columns) {
        int[] places = new int[3 * columns.length + 3];
        places[0] = 10;
        places[2] = 4;
        for (int i = 0; i < columns.length; i++) {
            places[3 * i + 3] = 11 + i;
            places[3 * i + 4] = places[3 * i + 1] + columns[i];
            places[3 * i + 5] = 4;
        }
        return moving("", places);
    }

    // Segments.

    @Says({"Returns 0 to 5", "Segments are indexed from 0"})
    static void promise33_segmentsOfOneToSixFrames() {
        for (int frames = 1; frames <= 6; frames++) {
            Check.equal("segments of " + frames, steps(new int[frames - 1]).segmentCount(0), frames - 1);
        }
        Check.equal("no frame", Check.loaded("feature 1 1;").segmentCount(0), 0);
        GlacierCamera x = moving("", 1, 5, 4, 2, 5, 4);
        x.setSetting(GlacierCamera.CONTRAST, 9);
        x.setPixel(0, 5, 4, 8);
        x.setPixel(1, 5, 4, 8);
        Check.equal("no usable frame", x.segmentCount(0), 0);
    }

    @Says("A segment of a track leads from a frame in which the feature is tracked to the next such frame")
    static void promise33_framesInWhichTheFeatureIsLost() {
        Check.equal("lost in the middle", moving("", 1, 5, 4, 2, -1, 0, 3, 5, 4).segmentCount(0), 1);
        Check.equal("lost at the end", moving("", 1, 5, 4, 2, 5, 4, 3, -1, 0).segmentCount(0), 1);
        Check.equal("lost in all but the first", moving("", 1, 5, 4, 2, -1, 0, 3, -1, 0).segmentCount(0), 0);
    }

    @Says("Throws IndexOutOfBoundsException if feature is not a valid index")
    static void promise33_featureOneOutsideThrows() {
        Refusal.outOfBounds("segmentCount(2) of two", x -> x.segmentCount(2));
        for (int wrong : NO_INDICES) {
            Refusal.outOfBounds("segmentCount(" + wrong + ")", x -> x.segmentCount(wrong));
        }
        Check.outOfBounds("no features", () -> new GlacierCamera().segmentCount(0));
    }

    // Speeds.

    @Says("the length of a segment is the integer square root (rounded down) of (dx * dx + dy * dy) * SCALE * SCALE")
    static void promise34_lengthJustBelowAndJustAboveAWholeNumber() {
        GlacierCamera x = moving("", 1, 5, 4, 2, 6, 5);
        int[][] due = {{1, 1}, {2, 2}, {5, 7}, {12, 16}, {29, 41}, {70, 98}, {408, 576}, {985, 1393}, {999, 1412}, {1000, 1414}};
        for (int[] scale : due) {
            x.setSetting(GlacierCamera.SCALE, scale[0]);
            Check.equal("the diagonal at SCALE " + scale[0], x.speed(0, 0), scale[1]);
        }
    }

    @Says("the length of a segment is the integer square root (rounded down) of (dx * dx + dy * dy) * SCALE * SCALE")
    static void promise34_lengthThatIsAWholeNumber() {
        int[][] moves = {{3, 4, 5}, {-3, -4, 5}, {4, -3, 5}, {-4, 3, 5}, {4, 0, 4}, {0, -4, 4}, {-1, 0, 1}, {0, 0, 0}};
        for (int[] move : moves) {
            GlacierCamera x = moving("", 1, 5, 4, 2, 5 + move[0], 4 + move[1]);
            for (int scale : new int[] {1, 999, 1000}) {
                x.setSetting(GlacierCamera.SCALE, scale);
                Check.equal("by " + move[0] + ", " + move[1] + " at " + scale, x.speed(0, 0), move[2] * scale);
            }
        }
    }

    @Says("the length of a segment is the integer square root (rounded down)")
    static void promise34_greatestLength() {
        // Whatever the camera's shift, a match is at most 4 columns and rows from the expected pixel.
        GlacierCamera x = Check.loaded("size 12 10;set window 0;set range 4;set shift 3;set scale 1000;control 5 5;feature 4 2;"
            + Scenes.frame(12, 10, 1, 5, 5, 9, 4, 2, 6) + Scenes.frame(12, 10, 2, 8, 8, 9, 3, 1, 6));
        Check.equal("shift", 10 * x.shiftX(1) + x.shiftY(1), 33);
        Check.equal("4 * 1414.2", x.speed(0, 0), 5656);
    }

    @Says("The speed of a segment is its length divided by the number of days between the two frames, rounded down")
    static void promise34_speedJustBelowAWholeNumber() {
        int[][] due = {{1, 100}, {2, 50}, {3, 33}, {49, 2}, {50, 2}, {51, 1}, {99, 1}, {100, 1}, {101, 0}, {9999, 0}};
        for (int[] days : due) {
            Check.equal(days[0] + " days", moving("", 0, 5, 4, days[0], 6, 4).speed(0, 0), days[1]);
        }
    }

    @Says("A segment of a track leads from a frame in which the feature is tracked to the next such frame")
    static void promise34_daysOverAFrameInWhichTheFeatureIsLost() {
        GlacierCamera x = moving("", 1, 5, 4, 2, -1, 0, 5, 6, 4, 6, 7, 4);
        Check.equal("4 days", x.speed(0, 0), 25);
        Check.equal("1 day", x.speed(0, 1), 100);
    }

    @Says("Throws IndexOutOfBoundsException if feature or segment is not a valid index")
    static void promise34_segmentOneOutsideThrows() {
        GlacierCamera x = steps(1, 2, 3, 1, 2);
        int[] due = {100, 200, 300, 100, 200};
        for (int i = 0; i < 5; i++) {
            Check.equal("segment " + i, x.speed(0, i), due[i]);
        }
        Check.outOfBounds("segment 5", () -> x.speed(0, 5));
        for (int wrong : NO_INDICES) {
            Check.outOfBounds("segment " + wrong, () -> x.speed(0, wrong));
        }
        GlacierCamera single = moving("", 1, 5, 4);
        Check.outOfBounds("segment 0 of none", () -> single.speed(0, 0));
        Check.outOfBounds("segment 0 without frames", () -> Check.loaded("feature 1 1;").speed(0, 0));
    }

    @Says("Throws IndexOutOfBoundsException if feature or segment is not a valid index")
    static void promise34_featureOneOutsideThrows() {
        Refusal.outOfBounds("feature 2 of two", x -> x.speed(2, 0));
        Refusal.outOfBounds("segment 9", x -> x.speed(0, 9));
        for (int wrong : NO_INDICES) {
            Refusal.outOfBounds("feature " + wrong, x -> x.speed(wrong, 0));
        }
        Check.outOfBounds("no features", () -> new GlacierCamera().speed(0, 0));
    }

    @Says("The true position of a feature in a frame in which it is tracked is its pixel minus the shift of the frame")
    static void promise34_featureThatMovesWithTheCameraAndOneThatRestsInTheImage() {
        GlacierCamera x = Check.loaded("size 12 10;set window 0;control 0 9;feature 5 4;feature 8 4;"
            + Scenes.frame(12, 10, 1, 0, 9, 9, 5, 4, 5, 8, 4, 6) + Scenes.frame(12, 10, 2, 1, 9, 9, 6, 4, 5, 8, 4, 6));
        Check.equal("shiftX", x.shiftX(1), 1);
        Check.equal("with the camera", x.speed(0, 0), 0);
        Check.equal("at rest in the image", x.speed(1, 0), 100);
    }

    // Mean speeds.

    @Says("divided by the number of days from the first frame to the last one in which it is tracked, rounded down")
    static void promise35_meanJustBelowAWholeNumber() {
        Check.equal("200 in 4 days", moving("", 1, 5, 4, 2, 6, 4, 5, 7, 4).meanSpeed(0), 50);
        Check.equal("200 in 5 days", moving("", 1, 5, 4, 2, 6, 4, 6, 7, 4).meanSpeed(0), 40);
        Check.equal("200 in 6 days", moving("", 1, 5, 4, 2, 6, 4, 7, 7, 4).meanSpeed(0), 33);
        Check.equal("200 in 200 days", moving("", 1, 5, 4, 2, 6, 4, 201, 7, 4).meanSpeed(0), 1);
        Check.equal("200 in 201 days", moving("", 1, 5, 4, 2, 6, 4, 202, 7, 4).meanSpeed(0), 0);
    }

    @Says("the sum of the lengths of all segments divided by the number of days")
    static void promise35_lengthsAreRoundedBeforeTheyAreAdded() {
        GlacierCamera x = moving("set scale 5;", 1, 5, 4, 2, 6, 5, 3, 5, 4);
        Check.equal("7 and 7 in 2 days", x.meanSpeed(0), 7);
        GlacierCamera y = moving("set scale 12;", 1, 5, 4, 2, 6, 5, 3, 5, 4, 4, 6, 5);
        Check.equal("three times 16 in 3 days", y.meanSpeed(0), 16);
        Check.equal("forth and back", moving("", 1, 5, 4, 2, 9, 4, 3, 5, 4).meanSpeed(0), 400);
    }

    @Says("from the first frame to the last one in which it is tracked")
    static void promise35_daysOfTheFramesInWhichTheFeatureIsTracked() {
        Check.equal("lost at the end", moving("", 1, 5, 4, 3, 6, 4, 99, -1, 0).meanSpeed(0), 50);
        Check.equal("lost in the middle", moving("", 1, 5, 4, 2, -1, 0, 3, 6, 4).meanSpeed(0), 50);
    }

    @Says("0 without segments")
    static void promise35_withoutSegments() {
        Check.equal("lost at once", moving("", 1, 5, 4, 2, -1, 0).meanSpeed(0), 0);
        Check.equal("one frame", moving("", 1, 5, 4).meanSpeed(0), 0);
        Check.equal("no frame", Check.loaded("feature 5 4;").meanSpeed(0), 0);
        Check.equal("no usable frame", Check.loaded("feature 5 4;" + Scenes.frame(12, 8, 1)).meanSpeed(0), 0);
    }

    @Says("Throws IndexOutOfBoundsException if feature is not a valid index")
    static void promise35_featureOneOutsideThrows() {
        Refusal.outOfBounds("meanSpeed(2) of two", x -> x.meanSpeed(2));
        for (int wrong : NO_INDICES) {
            Refusal.outOfBounds("meanSpeed(" + wrong + ")", x -> x.meanSpeed(wrong));
        }
        Check.outOfBounds("no features", () -> new GlacierCamera().meanSpeed(0));
    }

    @Says({"BAD_VALUE if scale is out of range", "1 to 1000"})
    static void promise36_scaleFrom1To1000() {
        GlacierCamera x = moving("set scale 7;", 1, 5, 4, 2, 9, 4);
        Check.equal("scale 1", x.meanSpeedWithScale(0, 1), 4);
        Check.equal("scale 1000", x.meanSpeedWithScale(0, 1000), 4000);
        Check.equal("the set scale stays", x.meanSpeed(0), 28);
        Check.equal("no change", x.undoCount(), 0);
        for (int scale : new int[] {0, 1001, -1, Integer.MIN_VALUE, Integer.MAX_VALUE}) {
            Refusal.refused("scale " + scale, y -> y.meanSpeedWithScale(0, scale), BAD_VALUE);
        }
        Check.equal("scale 1 without segments", Check.loaded("feature 1 1;").meanSpeedWithScale(0, 1), 0);
        Check.equal("scale 0 without segments", Check.loaded("feature 1 1;").meanSpeedWithScale(0, 0), BAD_VALUE);
    }

    @Says("Throws IndexOutOfBoundsException if feature is not a valid index (checked first)")
    static void promise36_featureOneOutsideThrowsBeforeTheScale() {
        Refusal.outOfBounds("feature 2 of two", x -> x.meanSpeedWithScale(2, 1));
        Refusal.outOfBounds("feature 2 and scale 0", x -> x.meanSpeedWithScale(2, 0));
        Refusal.outOfBounds("feature 2 and scale 1001", x -> x.meanSpeedWithScale(2, 1001));
        for (int wrong : NO_INDICES) {
            Refusal.outOfBounds("feature " + wrong, x -> x.meanSpeedWithScale(wrong, wrong));
        }
        Check.outOfBounds("no features", () -> new GlacierCamera().meanSpeedWithScale(0, 0));
    }

    // The fastest feature.

    private static GlacierCamera twoFeatures(int daysApart, int firstTo, int secondTo) {
        return Check.loaded("size 12 10;set window 0;set range 4;feature 5 2;feature 5 6;" + Scenes.frame(12, 10, 1, 5, 2, 9, 5, 6, 6)
            + Scenes.frame(12, 10, 1 + daysApart, firstTo, 2, 9, secondTo, 6, 6));
    }

    @Says({"Returns the feature with the greatest mean speed", "Ties are broken by lower index"})
    static void promise37_tieAndOneFaster() {
        Check.equal("tie", twoFeatures(1, 6, 6).fastestFeature(), 0);
        Check.equal("tie in both directions", twoFeatures(1, 6, 4).fastestFeature(), 0);
        Check.equal("second faster", twoFeatures(1, 6, 7).fastestFeature(), 1);
        Check.equal("first faster", twoFeatures(1, 7, 6).fastestFeature(), 0);
        Check.equal("both at rest", twoFeatures(1, 5, 5).fastestFeature(), 0);
        Check.equal("100 and 200 in 100 days", twoFeatures(100, 6, 7).fastestFeature(), 1);
        Check.equal("100 and 200 in 201 days, both rounded to 0", twoFeatures(201, 6, 7).fastestFeature(), 0);
    }

    @Says("Features without segments do not count")
    static void promise37_featuresWithoutSegments() {
        Check.equal("first lost", twoFeatures(1, 11, 5).fastestFeature(), 1);
        Check.equal("second lost", twoFeatures(1, 5, 11).fastestFeature(), 0);
        Check.equal("first lost, second at rest for long", twoFeatures(999, 11, 5).fastestFeature(), 1);
    }

    @Says("NOT_FOUND if no feature counts")
    static void promise37_noFeatureCounts() {
        Check.equal("both lost", twoFeatures(1, 11, 11).fastestFeature(), NOT_FOUND);
        Check.equal("one frame", moving("", 1, 5, 4).fastestFeature(), NOT_FOUND);
        Check.equal("no frame", Check.loaded("feature 1 1;").fastestFeature(), NOT_FOUND);
        Check.equal("no feature", Check.loaded(Scenes.frame(12, 8, 1, 5, 4, 9) + Scenes.frame(12, 8, 2, 5, 4, 9)).fastestFeature(),
            NOT_FOUND);
        Check.equal("new object", new GlacierCamera().fastestFeature(), NOT_FOUND);
    }

    @Says("Returns the index of the feature")
    static void promise37_lastOfSix() {
        GlacierCamera x = Check.loaded("size 12 10;set window 0;" + "feature 2 2;".repeat(5) + "feature 5 6;"
            + Scenes.frame(12, 10, 1, 2, 2, 9, 5, 6, 6) + Scenes.frame(12, 10, 2, 2, 2, 9, 6, 6, 6));
        Check.equal("the sixth one", x.fastestFeature(), 5);
    }

    // Surges.

    @Says("each with a speed of at least SURGE")
    static void promise38_speedEqualToSURGEAndOneLess() {
        GlacierCamera x = steps(1);
        int[][] due = {{0, 1}, {99, 1}, {100, 1}, {101, 0}, {9999, 0}};
        for (int[] surge : due) {
            x.setSetting(GlacierCamera.SURGE, surge[0]);
            Check.equal("speed 100 at SURGE " + surge[0], x.surgeCount(0), surge[1]);
        }
        GlacierCamera rest = steps(0);
        rest.setSetting(GlacierCamera.SURGE, 0);
        Check.equal("speed 0 at SURGE 0", rest.surgeCount(0), 1);
        rest.setSetting(GlacierCamera.SURGE, 1);
        Check.equal("speed 0 at SURGE 1", rest.surgeCount(0), 0);
        Check.equal("length 150 in 3 days at SURGE 50", moving("set scale 150;", 1, 5, 4, 4, 6, 4).surgeCount(0), 1);
        Check.equal("length 149 in 3 days at SURGE 50", moving("set scale 149;", 1, 5, 4, 4, 6, 4).surgeCount(0), 0);
    }

    @Says("A surge is a run of successive segments, as long as possible")
    static void promise38_runsOfSegments() {
        Check.equal("all five fast", steps(1, 1, 1, 1, 1).surgeCount(0), 1);
        Check.equal("every other one", steps(1, 0, 1, 0, 1).surgeCount(0), 3);
        Check.equal("the other ones", steps(0, 1, 0, 1, 0).surgeCount(0), 2);
        Check.equal("first and last", steps(1, 0, 0, 0, 1).surgeCount(0), 2);
        Check.equal("the last one", steps(0, 0, 0, 0, 1).surgeCount(0), 1);
        Check.equal("none", steps(0, 0, 0, 0, 0).surgeCount(0), 0);
        Check.equal("no segments", steps().surgeCount(0), 0);
        Check.equal("no frame", Check.loaded("set surge 0;feature 1 1;").surgeCount(0), 0);
    }

    @Says("Throws IndexOutOfBoundsException if feature is not a valid index")
    static void promise38_featureOneOutsideThrows() {
        Refusal.outOfBounds("surgeCount(2) of two", x -> x.surgeCount(2));
        for (int wrong : NO_INDICES) {
            Refusal.outOfBounds("surgeCount(" + wrong + ")", x -> x.surgeCount(wrong));
        }
        Check.outOfBounds("no features", () -> new GlacierCamera().surgeCount(0));
    }

    private static void surges(String what, GlacierCamera x, int... startsAndDays) {
        int count = startsAndDays.length / 2;
        Check.equal(what + ": surgeCount", x.surgeCount(0), count);
        for (int i = 0; i < count; i++) {
            Check.equal(what + ": surgeStart " + i, x.surgeStart(0, i), startsAndDays[2 * i]);
            Check.equal(what + ": surgeDays " + i, x.surgeDays(0, i), startsAndDays[2 * i + 1]);
        }
        Check.equal(what + ": surgeStart beyond the last", x.surgeStart(0, count), NOT_FOUND);
        Check.equal(what + ": surgeDays beyond the last", x.surgeDays(0, count), NOT_FOUND);
        for (int wrong : NO_INDICES) {
            Check.equal(what + ": surgeStart " + wrong, x.surgeStart(0, wrong), NOT_FOUND);
            Check.equal(what + ": surgeDays " + wrong, x.surgeDays(0, wrong), NOT_FOUND);
        }
    }

    @Says({"that of the first frame of its first segment", "Surges are indexed from 0", "NOT_FOUND if there is no such surge"})
    static void promise39_surgesAtTheStartAndAtTheEnd() {
        surges("first and last", steps(1, 0, 0, 0, 1), 10, 1, 14, 1);
        surges("two and two", steps(1, 1, 0, 1, 1), 10, 2, 13, 2);
        surges("in the middle", steps(0, 1, 1, 1, 0), 11, 3);
        surges("all", steps(1, 1, 1, 1, 1), 10, 5);
        surges("none", steps(0, 0));
        surges("no segments", steps());
    }

    @Says("each with a speed of at least SURGE")
    static void promise39_startOfASpeedEqualToSURGEAndOneLess() {
        GlacierCamera x = steps(1, 0, 2, 3, 1);
        int[][] due = {{0, 10}, {1, 10}, {100, 10}, {101, 12}, {200, 12}, {201, 13}, {300, 13}, {301, NOT_FOUND}};
        for (int[] surge : due) {
            x.setSetting(GlacierCamera.SURGE, surge[0]);
            Check.equal("first surge at SURGE " + surge[0], x.surgeStart(0, 0), surge[1]);
            Check.equal("second surge at SURGE " + surge[0], x.surgeStart(0, 1), surge[0] >= 1 && surge[0] <= 100 ? 12 : NOT_FOUND);
        }
    }

    @Says("each with a speed of at least SURGE")
    static void promise40_daysOfASpeedEqualToSURGEAndOneLess() {
        GlacierCamera x = steps(1, 0, 2, 3, 1);
        int[][] due = {{0, 5}, {1, 1}, {100, 1}, {101, 2}, {200, 2}, {201, 1}, {300, 1}, {301, NOT_FOUND}};
        for (int[] surge : due) {
            x.setSetting(GlacierCamera.SURGE, surge[0]);
            Check.equal("first surge at SURGE " + surge[0], x.surgeDays(0, 0), surge[1]);
            Check.equal("second surge at SURGE " + surge[0], x.surgeDays(0, 1), surge[0] >= 1 && surge[0] <= 100 ? 3 : NOT_FOUND);
        }
    }

    @Says({"from the first frame of its first segment to the last frame of its last one", "NOT_FOUND if there is no such surge"})
    static void promise40_surgeOverFramesInWhichTheFeatureIsLost() {
        GlacierCamera x = moving("set surge 10;", 5, 1, 4, 6, 2, 4, 7, -1, 0, 9, 3, 4, 20, 3, 4, 9999, 4, 4);
        surges("lost in between", x, 5, 4);
        x.setSetting(GlacierCamera.SURGE, 0);
        surges("up to the last day", x, 5, 9994);
        x.setSetting(GlacierCamera.SURGE, 100);
        surges("the first segment", x, 5, 1);
    }

    @Says("Throws IndexOutOfBoundsException if feature is not a valid index")
    static void promise39_featureOneOutsideThrows() {
        Refusal.refused("surge 9", x -> x.surgeStart(1, 9), NOT_FOUND);
        Refusal.outOfBounds("surgeStart(2, 0) of two", x -> x.surgeStart(2, 0));
        for (int wrong : NO_INDICES) {
            Refusal.outOfBounds("surgeStart(" + wrong + ", 0)", x -> x.surgeStart(wrong, 0));
        }
        Check.outOfBounds("no features", () -> new GlacierCamera().surgeStart(0, 0));
    }

    @Says("Throws IndexOutOfBoundsException if feature is not a valid index")
    static void promise40_featureOneOutsideThrows() {
        Refusal.refused("surge 9", x -> x.surgeDays(1, 9), NOT_FOUND);
        Refusal.outOfBounds("surgeDays(2, 0) of two", x -> x.surgeDays(2, 0));
        for (int wrong : NO_INDICES) {
            Refusal.outOfBounds("surgeDays(" + wrong + ", 0)", x -> x.surgeDays(wrong, 0));
        }
        Check.outOfBounds("no features", () -> new GlacierCamera().surgeDays(0, 0));
    }

    // Positions.

    private static void position(String what, GlacierCamera x, int day, int column, int row) {
        Check.equal(what + ": positionX on day " + day, x.positionX(0, day), column);
        Check.equal(what + ": positionY on day " + day, x.positionY(0, day), row);
    }

    private static void noPosition(String what, GlacierCamera x, int day) {
        position(what, x, day, Integer.MIN_VALUE, Integer.MIN_VALUE);
    }

    @Says("Integer.MIN_VALUE if the day is before the first or after the last frame in which the feature is tracked")
    static void promise41_firstAndLastDayAndOneOutside() {
        GlacierCamera x = moving("", 10, 5, 4, 14, 9, 2);
        noPosition("the day before", x, 9);
        position("the first day", x, 10, 500, 400);
        position("the next day", x, 11, 600, 350);
        position("the last day but one", x, 13, 800, 250);
        position("the last day", x, 14, 900, 200);
        noPosition("the day after", x, 15);
        for (int day : NO_INDICES) {
            noPosition("wrong day", x, day);
        }
    }

    @Says("Integer.MIN_VALUE if the day is before the first or after the last frame in which the feature is tracked")
    static void promise42_daysOfFramesInWhichTheFeatureIsLost() {
        GlacierCamera x = moving("", 10, 5, 4, 12, -1, 0, 14, 9, 2, 16, -1, 0);
        position("lost in between", x, 12, 700, 300);
        position("the last day", x, 14, 900, 200);
        noPosition("the day after", x, 15);
        noPosition("lost at the end", x, 16);
        GlacierCamera late = Check.loaded("feature 5 4;" + Scenes.frame(12, 8, 1) + Scenes.frame(12, 8, 3, 5, 4, 9));
        noPosition("before the reference frame", late, 1);
        noPosition("the day before it", late, 2);
        position("its day", late, 3, 500, 400);
        noPosition("the day after it", late, 4);
    }

    @Says("the last frame in which the feature is tracked, or no frame is usable")
    static void promise41_noUsableFrame() {
        noPosition("no frame", Check.loaded("feature 5 4;"), 0);
        noPosition("no usable frame", Check.loaded("feature 5 4;" + Scenes.frame(12, 8, 1)), 1);
    }

    @Says("the last frame in which the feature is tracked, or no frame is usable")
    static void promise42_noUsableFrame() {
        GlacierCamera x = moving("", 0, 5, 4);
        position("day 0", x, 0, 500, 400);
        x.setPixel(0, 5, 4, 1);
        x.setPixel(0, 11, 9, 1);
        noPosition("no usable frame", x, 0);
    }

    @Says("which is rounded down (towards negative infinity)")
    static void promise41_quotientJustAboveAndJustBelow0() {
        GlacierCamera right = moving("", 0, 5, 4, 101, 6, 4);
        position("100 / 101", right, 1, 500, 400);
        position("200 / 101", right, 2, 501, 400);
        position("10000 / 101", right, 100, 599, 400);
        GlacierCamera left = moving("", 0, 5, 4, 101, 4, 4);
        position("-100 / 101", left, 1, 499, 400);
        position("-200 / 101", left, 2, 498, 400);
        position("-10000 / 101", left, 100, 400, 400);
        GlacierCamera even = moving("", 0, 5, 4, 100, 4, 4);
        position("-100 / 100", even, 1, 499, 400);
        position("-200 / 100", even, 2, 498, 400);
        position("-9900 / 100", even, 99, 401, 400);
        position("the last day", even, 100, 400, 400);
    }

    @Says("interpolated as for positionX")
    static void promise42_quotientJustAboveAndJustBelow0() {
        GlacierCamera down = moving("", 0, 5, 4, 101, 5, 5);
        position("100 / 101", down, 1, 500, 400);
        position("10000 / 101", down, 100, 500, 499);
        GlacierCamera up = moving("", 0, 5, 4, 101, 5, 3);
        position("-100 / 101", up, 1, 500, 399);
        position("-10000 / 101", up, 100, 500, 300);
        position("over 9999 days", moving("", 0, 5, 4, 9999, 1, 8), 9998, 100, 799);
        position("over 9999 days", moving("", 0, 5, 4, 9999, 1, 8), 1, 499, 400);
    }

    @Says("Between two successive frames in which the feature is tracked, it is interpolated linearly")
    static void promise41_daysOfTheFramesInBetween() {
        GlacierCamera x = moving("", 0, 5, 4, 3, 6, 3, 4, 6, 3, 7, 3, 4);
        int[][] due = {{0, 500, 400}, {1, 533, 366}, {2, 566, 333}, {3, 600, 300}, {4, 600, 300}, {5, 500, 333}, {6, 400, 366},
            {7, 300, 400}};
        for (int[] day : due) {
            position("four frames", x, day[0], day[1], day[2]);
        }
    }

    @Says("100 times the column in the first one, plus the quotient")
    static void promise41_truePositionsBelow0() {
        // The camera shifts by (1, 1), the dot rests at (0, 0) in the image, so its true pixel is (-1, -1) then.
        GlacierCamera x = Check.loaded("size 12 10;set window 0;control 5 5;feature 0 0;" + Scenes.frame(12, 10, 0, 5, 5, 9, 0, 0, 5)
            + Scenes.frame(12, 10, 3, 6, 6, 9, 0, 0, 5) + Scenes.frame(12, 10, 6, 5, 5, 9, 0, 0, 5));
        Check.equal("shift", 10 * x.shiftX(1) + x.shiftY(1), 11);
        int[][] due = {{0, 0}, {1, -34}, {2, -67}, {3, -100}, {4, -67}, {5, -34}, {6, 0}};
        for (int[] day : due) {
            position("below 0", x, day[0], day[1], day[1]);
        }
    }

    @Says("Throws IndexOutOfBoundsException if feature is not a valid index")
    static void promise41_featureOneOutsideThrows() {
        Refusal.outOfBounds("positionX(2, 3) of two", x -> x.positionX(2, 3));
        for (int wrong : NO_INDICES) {
            Refusal.outOfBounds("positionX(" + wrong + ", 3)", x -> x.positionX(wrong, 3));
        }
        Check.outOfBounds("no features", () -> new GlacierCamera().positionX(0, 0));
    }

    @Says("Throws IndexOutOfBoundsException if feature is not a valid index")
    static void promise42_featureOneOutsideThrows() {
        Refusal.outOfBounds("positionY(2, 3) of two", x -> x.positionY(2, 3));
        for (int wrong : NO_INDICES) {
            Refusal.outOfBounds("positionY(" + wrong + ", 3)", x -> x.positionY(wrong, 3));
        }
        Check.outOfBounds("no features", () -> new GlacierCamera().positionY(0, 0));
    }

    // Moved features.

    @Says({"Moves a feature to another pixel of the reference frame", "Returns true if it was done"})
    static void promise43_toTheCornersOfTheImage() {
        for (int[] corner : new int[][] {{0, 0}, {11, 0}, {0, 9}, {11, 9}}) {
            GlacierCamera x = moving("", 1, 5, 4);
            Check.equal("moveFeature", x.moveFeature(0, corner[0], corner[1]), true);
            Check.equal("column", x.trackX(0, 0), corner[0]);
            Check.equal("row", x.trackY(0, 0), corner[1]);
            Check.equal("changes", x.undoCount(), 1);
        }
    }

    @Says({"Moves a feature to another pixel of the reference frame", "Setting a value that is already set is also a change"})
    static void promise43_toTheSamePixelAndWithoutAFrame() {
        GlacierCamera x = moving("", 1, 5, 4);
        Check.equal("same pixel", x.moveFeature(0, 5, 4), true);
        Check.equal("is a change", x.undoCount(), 1);
        GlacierCamera none = Check.loaded("feature 5 4;");
        Check.equal("without frames", none.moveFeature(0, 0, 0), true);
        Check.equal("changes", none.undoCount(), 1);
    }

    @Says("Moves a feature to another pixel of the reference frame")
    static void promise43_firstAndLastOfSixFeatures() {
        GlacierCamera x = Check.loaded("feature 5 4;".repeat(6) + Scenes.frame(12, 8, 1, 5, 4, 9));
        Check.equal("first", x.moveFeature(0, 1, 2), true);
        Check.equal("last", x.moveFeature(5, 3, 1), true);
        Check.equal("beyond the last", x.moveFeature(6, 3, 1), false);
        int[] columns = {1, 5, 5, 5, 5, 3};
        for (int i = 0; i < 6; i++) {
            Check.equal("feature " + i, x.trackX(i, 0), columns[i]);
        }
    }

    @Says("false if feature is not a valid index, or x or y is not in the image (nothing changes then)")
    static void promise43_featureOneOutside() {
        Refusal.refused("feature 2 of two", x -> x.moveFeature(2, 1, 1), false);
        Refusal.refused("no features", GlacierCamera::new, x -> x.moveFeature(0, 1, 1), false);
        for (int wrong : NO_INDICES) {
            Refusal.refused("feature " + wrong, x -> x.moveFeature(wrong, 1, 1), false);
        }
    }

    @Says("false if feature is not a valid index, or x or y is not in the image (nothing changes then)")
    static void promise43_pixelOneOutside() {
        Refusal.refused("column 4 of four", x -> x.moveFeature(0, 4, 1), false);
        Refusal.refused("row 4 of four", x -> x.moveFeature(0, 1, 4), false);
        for (int wrong : NO_INDICES) {
            Refusal.refused("column " + wrong, x -> x.moveFeature(0, wrong, 1), false);
            Refusal.refused("row " + wrong, x -> x.moveFeature(0, 1, wrong), false);
        }
        GlacierCamera wide = moving("", 1, 5, 4);
        Check.equal("column 12", wide.moveFeature(0, 12, 9), false);
        Check.equal("row 10", wide.moveFeature(0, 11, 10), false);
        Check.equal("neither", wide.moveFeature(0, 11, 9), true);
    }
}
