/** Promises 60 to 65: the boundary cases of registered and changed pixels, snow lines, strain, direction and melt in a segment. */
public final class BoundaryImageTest {
    private static final int NOT_FOUND = -1, BAD_VALUE = -2;
    private static final int[] NO_INDICES = {-1, Integer.MIN_VALUE, Integer.MAX_VALUE};

    public static void main(String[] args) {
        Cases.run(BoundaryImageTest.class);
    }

    private static String dots(int day, int... dots) {
        return Scenes.frame(12, 10, day, dots);
    }

    private static String uniform(int day, int brightness) {
        return dots(day).replace("0000", ("" + brightness).repeat(4));
    }

    private static GlacierCamera loaded(String statements) {
        return Check.loaded("size 12 10;" + statements);
    }

    /** The camera shifts by (sx, sy) in the second frame. */
    private static GlacierCamera shifted(int sx, int sy) {
        GlacierCamera x = loaded("set window 0;set shift 3;control 5 5;" + dots(1, 5, 5, 9) + dots(2, 5 + sx, 5 + sy, 9));
        Check.equal("shift", 10 * x.shiftX(1) + x.shiftY(1), 10 * sx + sy);
        return x;
    }

    // Registered pixels.

    @Says("the frame is not oriented or the shifted pixel is not in the image")
    static void promise60_shiftedPixelJustInsideAndOneOutside() {
        for (int[] shift : new int[][] {{1, 1}, {-1, -1}, {3, -3}, {-3, 3}, {2, 0}, {0, -2}, {0, 0}}) {
            GlacierCamera x = shifted(shift[0], shift[1]);
            for (int y = 0; y < 10; y++) {
                for (int column = 0; column < 12; column++) {
                    int shiftedX = column + shift[0];
                    int shiftedY = y + shift[1];
                    boolean inside = shiftedX >= 0 && shiftedX < 12 && shiftedY >= 0 && shiftedY < 10;
                    int due = !inside ? NOT_FOUND : column == 5 && y == 5 ? 9 : 0;
                    Check.equal("at " + column + " " + y, x.registered(1, column, y), due);
                }
            }
        }
    }

    @Says("Returns the brightness of a frame at a pixel plus the shift of the frame")
    static void promise60_narrowAndHighImage() {
        GlacierCamera x = Check.loaded("size 4 10;set window 0;control 1 5;" + Scenes.frame(4, 10, 1, 1, 5, 9)
            + Scenes.frame(4, 10, 2, 2, 6, 9, 3, 9, 4, 0, 1, 3, 3, 1, 2));
        Check.equal("shift", 10 * x.shiftX(1) + x.shiftY(1), 11);
        for (int y = 0; y < 10; y++) {
            for (int column = 0; column < 4; column++) {
                boolean inside = column < 3 && y < 9;
                Check.equal("at " + column + " " + y, x.registered(1, column, y), inside ? x.pixel(1, column + 1, y + 1) : NOT_FOUND);
            }
        }
        Check.equal("the last pixel", x.registered(1, 2, 8), 4);
    }

    @Says("Returns 0 to 9")
    static void promise60_brightnessFrom0To9() {
        GlacierCamera x = loaded(dots(1, 0, 0, 1, 11, 0, 2, 0, 9, 3, 11, 9, 9));
        Check.equal("upper left", x.registered(0, 0, 0), 1);
        Check.equal("upper right", x.registered(0, 11, 0), 2);
        Check.equal("lower left", x.registered(0, 0, 9), 3);
        Check.equal("lower right", x.registered(0, 11, 9), 9);
        Check.equal("dark", x.registered(0, 10, 9), 0);
    }

    @Says("NOT_FOUND if the frame is not oriented")
    static void promise60_frameThatIsNotOriented() {
        Refusal.refused("not usable", x -> x.registered(2, 1, 1), NOT_FOUND);
        Check.equal("no reference frame", loaded(dots(1)).registered(0, 1, 1), NOT_FOUND);
        GlacierCamera x = loaded("control 0 0;" + dots(1, 5, 5, 9) + dots(2, 5, 5, 9));
        Check.equal("no shift counts", x.registered(1, 5, 5), NOT_FOUND);
        Check.equal("reference frame", x.registered(0, 5, 5), 9);
    }

    @Says("Throws IndexOutOfBoundsException if frame is not a valid index, or x or y is not in the image")
    static void promise60_indexOneOutsideThrows() {
        Refusal.outOfBounds("frame 3 of three", x -> x.registered(3, 1, 1));
        Refusal.outOfBounds("column 4 of four", x -> x.registered(0, 4, 1));
        Refusal.outOfBounds("row 4 of four", x -> x.registered(0, 1, 4));
        Refusal.outOfBounds("column 4 in a frame that is not oriented", x -> x.registered(2, 4, 1));
        for (int wrong : NO_INDICES) {
            Refusal.outOfBounds("frame " + wrong, x -> x.registered(wrong, 1, 1));
            Refusal.outOfBounds("column " + wrong, x -> x.registered(0, wrong, 1));
            Refusal.outOfBounds("row " + wrong, x -> x.registered(0, 1, wrong));
        }
        GlacierCamera x = shifted(1, 1);
        Check.outOfBounds("column -1, in the image when shifted", () -> x.registered(1, -1, 1));
        Check.outOfBounds("row -1, in the image when shifted", () -> x.registered(1, 1, -1));
        GlacierCamera back = shifted(-1, -1);
        Check.outOfBounds("column 12, in the image when shifted", () -> back.registered(1, 12, 1));
        Check.outOfBounds("row 10, in the image when shifted", () -> back.registered(1, 1, 10));
        Check.outOfBounds("no frames", () -> new GlacierCamera().registered(0, 0, 0));
    }

    // Changed pixels.

    @Says("and these differ by at least a given number")
    static void promise61_differenceEqualAndOneLess() {
        for (int difference = 1; difference <= 9; difference++) {
            GlacierCamera x = loaded(dots(1, 5, 5, 9) + dots(2, 5, 5, 9, 3, 3, difference));
            Check.equal("equal", x.changedPixels(0, 1, difference), 1);
            Check.equal("equal, the other way", x.changedPixels(1, 0, difference), 1);
            if (difference < 9) {
                Check.equal("one less", x.changedPixels(0, 1, difference + 1), 0);
                Check.equal("one less, the other way", x.changedPixels(1, 0, difference + 1), 0);
            }
        }
    }

    @Says("Returns the number of pixels")
    static void promise61_noneAndAllPixels() {
        GlacierCamera x = loaded("set contrast 0;" + uniform(1, 0) + uniform(2, 9));
        Check.equal("all by 9", x.changedPixels(0, 1, 9), 120);
        Check.equal("all by 1", x.changedPixels(0, 1, 1), 120);
        Check.equal("the same frame", x.changedPixels(1, 1, 1), 0);
        GlacierCamera small = Check.loaded("size 4 4;set contrast 0;frame 1 0000 0000 0000 0000;frame 2 1111 1111 1111 1111;");
        Check.equal("all of the smallest image by 1", small.changedPixels(0, 1, 1), 16);
        Check.equal("all of the smallest image by 2", small.changedPixels(0, 1, 2), 0);
    }

    @Says("for which registered returns a brightness in both of two frames")
    static void promise61_pixelsThatAreShiftedOutOfTheImage() {
        // Beside the control point's pixel, the frames differ by 5 at least wherever both are seen.
        String start = "set window 0;set shift 3;control 5 5;";
        String bright = uniform(2, 5);
        GlacierCamera x = loaded(start + dots(1, 5, 5, 9) + bright);
        x.setPixel(1, 8, 3, 9);
        Check.equal("shift", 10 * x.shiftX(1) + x.shiftY(1), 28);
        Check.equal("9 columns and 8 rows are seen, one pixel is alike", x.changedPixels(0, 1, 5), 9 * 8 - 1);
        Check.equal("the other way", x.changedPixels(1, 0, 5), 9 * 8 - 1);
        Check.equal("by 1", x.changedPixels(0, 1, 1), 9 * 8 - 1);
        Check.equal("by 1, the other way", x.changedPixels(1, 0, 1), 9 * 8 - 1);
        Check.equal("by 6", x.changedPixels(0, 1, 6), 0);
    }

    @Says("Counts the pixels of the image")
    static void promise61_pixelsOutsideTheImageThatBothFramesShow() {
        // Both frames are shifted alike, so that a row or column beside the image is seen in both of them.
        int[][] shifts = {{1, 0, 0, 4}, {-1, 0, 11, 4}, {0, 1, 4, 0}, {0, -1, 4, 9}};
        for (int[] s : shifts) {
            GlacierCamera x = loaded("set window 0;control 5 5;" + dots(1, 5, 5, 9) + dots(2, 5 + s[0], 5 + s[1], 9)
                + dots(3, 5 + s[0], 5 + s[1], 9));
            Check.equal("shiftX", x.shiftX(2), s[0]);
            Check.equal("shiftY", x.shiftY(2), s[1]);
            x.setPixel(2, s[2], s[3], 7);
            Check.equal("beside the image", x.changedPixels(1, 2, 1), 0);
            x.setPixel(2, s[2] + s[0], s[3] + s[1], 7);
            Check.equal("in the image", x.changedPixels(1, 2, 1), 1);
        }
    }

    @Says({"BAD_VALUE if difference is out of range (checked after the exception)", "1 to 9"})
    static void promise61_differenceFrom1To9() {
        GlacierCamera x = loaded("set contrast 0;" + uniform(1, 0) + uniform(2, 9));
        Check.equal("1", x.changedPixels(0, 1, 1), 120);
        Check.equal("9", x.changedPixels(0, 1, 9), 120);
        for (int difference : new int[] {0, 10, -1, Integer.MIN_VALUE, Integer.MAX_VALUE}) {
            Check.equal("" + difference, x.changedPixels(0, 1, difference), BAD_VALUE);
            Refusal.refused("" + difference, y -> y.changedPixels(0, 1, difference), BAD_VALUE);
            Refusal.refused(difference + " not oriented", y -> y.changedPixels(2, 2, difference), BAD_VALUE);
            Refusal.outOfBounds(difference + " and a wrong frame", y -> y.changedPixels(3, 0, difference));
            Refusal.outOfBounds(difference + " and another wrong frame", y -> y.changedPixels(0, 3, difference));
        }
    }

    @Says("NOT_FOUND if one of the frames is not oriented")
    static void promise61_frameThatIsNotOriented() {
        Refusal.refused("first", x -> x.changedPixels(2, 1, 1), NOT_FOUND);
        Refusal.refused("second", x -> x.changedPixels(1, 2, 1), NOT_FOUND);
        Refusal.refused("both", x -> x.changedPixels(2, 2, 1), NOT_FOUND);
        Check.equal("neither", Refusal.prepared().changedPixels(1, 1, 1), 0);
    }

    @Says("Throws IndexOutOfBoundsException if a or b is not a valid index")
    static void promise61_frameOneOutsideThrows() {
        Refusal.outOfBounds("first", x -> x.changedPixels(3, 0, 1));
        Refusal.outOfBounds("second", x -> x.changedPixels(0, 3, 1));
        Refusal.outOfBounds("second behind a frame that is not oriented", x -> x.changedPixels(2, 3, 1));
        for (int wrong : NO_INDICES) {
            Refusal.outOfBounds("first " + wrong, x -> x.changedPixels(wrong, 0, 1));
            Refusal.outOfBounds("second " + wrong, x -> x.changedPixels(0, wrong, 1));
        }
        Check.outOfBounds("no frames", () -> new GlacierCamera().changedPixels(0, 0, 1));
    }

    // Snow lines.

    @Says("the first row from the top in which fewer than half of the pixels have at least a given brightness")
    static void promise62_exactlyHalfOfARowAndOneLess() {
        for (int width = 4; width <= 12; width++) {
            for (int bright = 0; bright <= width; bright++) {
                String row = " " + "7".repeat(bright) + "6".repeat(width - bright);
                GlacierCamera x = Check.loaded("size " + width + " 4;frame 1" + row.repeat(4) + ";");
                Check.equal(bright + " of " + width, x.snowLine(0, 7), 2 * bright < width ? 0 : 4);
            }
        }
    }

    @Says("have at least a given brightness")
    static void promise62_brightnessEqualAndOneLess() {
        GlacierCamera x = Check.loaded("size 4 4;frame 1 9999 7777 6666 0000;");
        int[] due = {4, 3, 3, 3, 3, 3, 3, 2, 1, 1};
        for (int brightness = 0; brightness <= 9; brightness++) {
            Check.equal("brightness " + brightness, x.snowLine(0, brightness), due[brightness]);
        }
    }

    @Says("the height of the images if there is no such row")
    static void promise62_firstAndLastRowAndNone() {
        for (int height = 4; height <= 10; height++) {
            StringBuilder text = new StringBuilder("size 4 " + height + ";");
            GlacierCamera none = Check.loaded(text + "frame 1" + " 5555".repeat(height) + ";");
            Check.equal("none of " + height, none.snowLine(0, 5), height);
            Check.equal("first of " + height, none.snowLine(0, 6), 0);
            GlacierCamera last = Check.loaded(text + "frame 1" + " 5555".repeat(height - 1) + " 5444;");
            Check.equal("last of " + height, last.snowLine(0, 5), height - 1);
        }
        GlacierCamera again = Check.loaded("size 4 4;frame 1 5555 0000 5555 0000;");
        Check.equal("the first one of two", again.snowLine(0, 5), 1);
    }

    @Says({"BAD_VALUE if brightness is out of range (checked after the exception)", "0 to 9"})
    static void promise62_brightnessFrom0To9() {
        GlacierCamera x = Check.loaded("size 4 4;frame 1 9999 9999 9999 0000;");
        Check.equal("0", x.snowLine(0, 0), 4);
        Check.equal("9", x.snowLine(0, 9), 3);
        for (int brightness : new int[] {-1, 10, Integer.MIN_VALUE, Integer.MAX_VALUE}) {
            Refusal.refused("" + brightness, y -> y.snowLine(0, brightness), BAD_VALUE);
            Refusal.outOfBounds(brightness + " and a wrong frame", y -> y.snowLine(3, brightness));
        }
    }

    @Says("Throws IndexOutOfBoundsException if frame is not a valid index")
    static void promise62_frameOneOutsideThrows() {
        Refusal.refused("the last one, not oriented", x -> x.snowLine(2, 1), 4);
        Refusal.outOfBounds("frame 3 of three", x -> x.snowLine(3, 1));
        for (int frame : NO_INDICES) {
            Refusal.outOfBounds("frame " + frame, x -> x.snowLine(frame, 1));
        }
        Check.outOfBounds("no frames", () -> new GlacierCamera().snowLine(0, 1));
    }

    // Strain.

    /** Two features with dots of 9 and 6 that stand at given pixels in two frames. */
    private static GlacierCamera pair(int x, int y, int toX, int toY, int otherX, int otherY, int otherToX, int otherToY) {
        return loaded("set window 0;set range 4;set tolerance 0;feature " + x + " " + y + ";feature " + otherX + " " + otherY + ";"
            + dots(1, x, y, 9, otherX, otherY, 6) + dots(2, toX, toY, 9, otherToX, otherToY, 6));
    }

    @Says("The distance, in hundredths of a pixel, is the integer square root (rounded down) of 10000 * (dx * dx + dy * dy)")
    static void promise63_distancesJustBelowAWholeNumber() {
        Check.equal("100 to 141", pair(2, 2, 2, 2, 3, 2, 3, 3).strain(0, 1), 41);
        Check.equal("141 to 100", pair(2, 2, 2, 2, 3, 3, 3, 2).strain(0, 1), -41);
        Check.equal("100 to 500", pair(2, 2, 2, 2, 3, 2, 5, 6).strain(0, 1), 400);
        Check.equal("100 to 223", pair(2, 2, 2, 2, 3, 2, 4, 3).strain(0, 1), 123);
        Check.equal("100 to 282", pair(2, 2, 2, 2, 3, 2, 4, 4).strain(0, 1), 182);
        Check.equal("761.57 to 921.95", pair(2, 1, 2, 1, 5, 8, 8, 8).strain(0, 1), 160);
        Check.equal("moved together", pair(2, 2, 5, 5, 3, 2, 6, 5).strain(0, 1), 0);
        Check.equal("in turn", pair(2, 2, 2, 2, 3, 2, 3, 3).strain(1, 0), 41);
        Check.equal("from one corner to the other", pair(0, 0, 0, 0, 8, 6, 11, 9).strain(0, 1), 1421 - 1000);
    }

    @Says("from the first frame in which both are tracked to the last one")
    static void promise63_framesInWhichOneOfThemIsLost() {
        GlacierCamera x = loaded("set window 0;set range 1;set tolerance 0;feature 2 2;feature 3 2;" + dots(1, 2, 2, 9, 3, 2, 6)
            + dots(2, 2, 2, 9) + dots(3, 2, 2, 9, 3, 3, 6) + dots(4, 2, 2, 9, 4, 4, 6) + dots(5, 4, 4, 6));
        Check.equal("second lost in frame 1", x.trackX(1, 1), NOT_FOUND);
        Check.equal("first lost in frame 4", x.trackX(0, 4), NOT_FOUND);
        Check.equal("second tracked in frame 4", x.trackX(1, 4), 4);
        Check.equal("from frame 0 to frame 3", x.strain(0, 1), 282 - 100);
        Check.equal("in turn", x.strain(1, 0), 282 - 100);
    }

    @Says("Integer.MIN_VALUE if both are tracked in fewer than two frames")
    static void promise63_bothTrackedInNoneOneAndTwoFrames() {
        Check.equal("no frame", loaded("feature 1 1;feature 2 2;").strain(0, 1), Integer.MIN_VALUE);
        Check.equal("no usable frame", loaded("feature 1 1;feature 2 2;" + dots(1)).strain(0, 1), Integer.MIN_VALUE);
        Check.equal("one frame", loaded("feature 1 1;feature 2 2;" + dots(1, 1, 1, 9)).strain(0, 1), Integer.MIN_VALUE);
        GlacierCamera x = pair(2, 2, 2, 2, 3, 2, 3, 2);
        Check.equal("two frames", x.strain(0, 1), 0);
        x.setPixel(1, 3, 2, 5);
        Check.equal("one of them lost", x.strain(0, 1), Integer.MIN_VALUE);
    }

    @Says("index of a feature, which may be the same")
    static void promise63_sameFeature() {
        GlacierCamera x = pair(2, 2, 4, 4, 3, 2, 3, 2);
        Check.equal("first", x.strain(0, 0), 0);
        Check.equal("second", x.strain(1, 1), 0);
        x.removeFrame(1);
        Check.equal("in one frame", x.strain(0, 0), Integer.MIN_VALUE);
    }

    @Says("where dx and dy are the differences of their true positions")
    static void promise63_truePositionsInAShiftedFrame() {
        GlacierCamera x = loaded("set window 0;set tolerance 0;control 5 5;feature 2 2;feature 3 2;" + dots(1, 5, 5, 9, 2, 2, 7, 3, 2, 6)
            + dots(2, 6, 6, 9, 3, 3, 7, 5, 3, 6));
        Check.equal("shift", 10 * x.shiftX(1) + x.shiftY(1), 11);
        Check.equal("100 to 200", x.strain(0, 1), 100);
    }

    @Says("Throws IndexOutOfBoundsException if first or second is not a valid index")
    static void promise63_featureOneOutsideThrows() {
        Refusal.outOfBounds("first", x -> x.strain(2, 0));
        Refusal.outOfBounds("second", x -> x.strain(0, 2));
        for (int wrong : NO_INDICES) {
            Refusal.outOfBounds("first " + wrong, x -> x.strain(wrong, 0));
            Refusal.outOfBounds("second " + wrong, x -> x.strain(0, wrong));
        }
        Check.outOfBounds("no features", () -> new GlacierCamera().strain(0, 0));
    }

    // Directions.

    private static GlacierCamera step(int dx, int dy) {
        return loaded("set window 0;set range 4;feature 5 5;" + dots(1, 5, 5, 9) + dots(2, 5 + dx, 5 + dy, 9));
    }

    @Says({"If |dx| is greater than 2 * |dy|, the direction is 0 (right, dx is positive) or 4 (left)",
        "Otherwise it is 1 (right and down), 3 (left and down), 5 (left and up) or 7 (right and up)"})
    static void promise64_columnsTwiceTheRowsAndOneMore() {
        Check.equal("right, twice", step(2, 1).direction(0), 1);
        Check.equal("right, one more", step(3, 1).direction(0), 0);
        Check.equal("right and up, twice", step(4, -2).direction(0), 7);
        Check.equal("right and up, one more", step(3, -1).direction(0), 0);
        Check.equal("left, twice", step(-4, 2).direction(0), 3);
        Check.equal("left, one more", step(-3, 1).direction(0), 4);
        Check.equal("left and up, twice", step(-2, -1).direction(0), 5);
        Check.equal("left and up, one more", step(-3, -1).direction(0), 4);
        Check.equal("right by 1", step(1, 0).direction(0), 0);
        Check.equal("left by 1", step(-1, 0).direction(0), 4);
    }

    @Says({"If |dy| is greater than 2 * |dx|, it is 2 (down, dy is positive) or 6 (up)",
        "Otherwise it is 1 (right and down), 3 (left and down), 5 (left and up) or 7 (right and up)"})
    static void promise64_rowsTwiceTheColumnsAndOneMore() {
        Check.equal("down, twice", step(1, 2).direction(0), 1);
        Check.equal("down, one more", step(1, 3).direction(0), 2);
        Check.equal("down and left, twice", step(-2, 4).direction(0), 3);
        Check.equal("down and left, one more", step(-1, 3).direction(0), 2);
        Check.equal("up, twice", step(2, -4).direction(0), 7);
        Check.equal("up, one more", step(1, -3).direction(0), 6);
        Check.equal("up and left, twice", step(-1, -2).direction(0), 5);
        Check.equal("up and left, one more", step(-1, -3).direction(0), 6);
        Check.equal("down by 1", step(0, 1).direction(0), 2);
        Check.equal("up by 1", step(0, -1).direction(0), 6);
    }

    @Says("Returns the direction, 0 to 7")
    static void promise64_everyMoveUpTo4() {
        for (int dy = -4; dy <= 4; dy++) {
            for (int dx = -4; dx <= 4; dx++) {
                int across = Math.abs(dx);
                int along = Math.abs(dy);
                int diagonal = dx > 0 ? dy > 0 ? 1 : 7 : dy > 0 ? 3 : 5;
                int due = across > 2 * along ? dx > 0 ? 0 : 4 : along > 2 * across ? dy > 0 ? 2 : 6 : diagonal;
                Check.equal("by " + dx + ", " + dy, step(dx, dy).direction(0), dx == 0 && dy == 0 ? NOT_FOUND : due);
            }
        }
    }

    @Says("NOT_FOUND if dx and dy are 0 or no frame is usable")
    static void promise64_noMovement() {
        Check.equal("at rest", step(0, 0).direction(0), NOT_FOUND);
        GlacierCamera x = loaded("set window 0;feature 5 5;" + dots(1, 5, 5, 9) + dots(2, 6, 5, 9) + dots(3, 5, 5, 9));
        Check.equal("forth and back", x.direction(0), NOT_FOUND);
        x.removeFrame(2);
        Check.equal("forth", x.direction(0), 0);
        x.removeFrame(1);
        Check.equal("one frame", x.direction(0), NOT_FOUND);
        Check.equal("lost", loaded("set window 0;feature 5 5;" + dots(1, 5, 5, 9) + dots(2, 11, 5, 9)).direction(0), NOT_FOUND);
        Check.equal("no frame", loaded("feature 5 5;").direction(0), NOT_FOUND);
        Check.equal("no usable frame", loaded("feature 5 5;" + dots(1) + dots(2)).direction(0), NOT_FOUND);
    }

    @Says("in the last and in the first frame in which it is tracked")
    static void promise64_lastFrameInWhichItIsTracked() {
        GlacierCamera x = loaded("set window 0;feature 5 5;" + dots(1, 5, 5, 9) + dots(2, 6, 5, 9) + dots(3, 6, 7, 9) + dots(4, 0, 0, 9));
        Check.equal("lost at the end", x.trackX(0, 3), NOT_FOUND);
        Check.equal("by 1, 2", x.direction(0), 1);
        x.removeFrame(2);
        Check.equal("by 1, 0", x.direction(0), 0);
    }

    @Says("Let dx and dy be the differences of its true positions")
    static void promise64_truePositionsInAShiftedFrame() {
        GlacierCamera x = loaded("set window 0;control 9 5;feature 3 3;feature 5 5;" + dots(1, 9, 5, 9, 3, 3, 7, 5, 5, 6)
            + dots(2, 10, 5, 9, 4, 3, 7, 5, 5, 6));
        Check.equal("shiftX", x.shiftX(1), 1);
        Check.equal("with the camera", x.direction(0), NOT_FOUND);
        Check.equal("at rest in the image", x.direction(1), 4);
    }

    @Says("Throws IndexOutOfBoundsException if feature is not a valid index")
    static void promise64_featureOneOutsideThrows() {
        Refusal.outOfBounds("direction(2) of two", x -> x.direction(2));
        for (int wrong : NO_INDICES) {
            Refusal.outOfBounds("direction(" + wrong + ")", x -> x.direction(wrong));
        }
        Check.outOfBounds("no features", () -> new GlacierCamera().direction(0));
    }

    // Melt in a segment.

    /** A feature at rest in frames of the days 10, 20 and 30, and stakes. */
    private static GlacierCamera resting(String stakes) {
        return loaded("feature 5 5;feature 0 0;" + stakes + dots(10, 5, 5, 9) + dots(20, 5, 5, 9) + dots(30, 5, 5, 9));
    }

    @Says({"what meanMelt returns for the days of its two frames", "NOT_FOUND if there is none"})
    static void promise65_stakeThatJustCoversASegmentAndOneDayLess() {
        Check.equal("covers the first", resting("stake 10 0 20 10;").meltInSegment(0, 0), 1000);
        Check.equal("not the second", resting("stake 10 0 20 10;").meltInSegment(0, 1), NOT_FOUND);
        Check.equal("begins a day late", resting("stake 11 0 20 10;").meltInSegment(0, 0), NOT_FOUND);
        Check.equal("ends a day early", resting("stake 10 0 19 10;").meltInSegment(0, 0), NOT_FOUND);
        Check.equal("covers the second", resting("stake 20 0 30 10;").meltInSegment(0, 1), 1000);
        Check.equal("covers both", resting("stake 10 0 30 10;").meltInSegment(0, 1), 500);
        Check.equal("melt 0", resting("stake 0 5 40 5;").meltInSegment(0, 0), 0);
    }

    @Says("NOT_FOUND if there is none")
    static void promise65_noStakeAndStakesThatDoNotCount() {
        Check.equal("no stake", resting("").meltInSegment(0, 0), NOT_FOUND);
        Check.equal("one reading", resting("stake 15 5;").meltInSegment(0, 0), NOT_FOUND);
        Check.equal("one of two", resting("stake 11 0 30 10;stake 0 0 40 4;").meltInSegment(0, 0), 100);
        Check.equal("two of two, rounded down", resting("stake 10 0 30 0;stake 10 0 110 1;").meltInSegment(0, 0), 5);
        Check.equal("three of three, rounded down", resting("stake 10 0 30 0;stake 10 0 30 0;stake 10 0 110 1;").meltInSegment(0, 0), 3);
    }

    @Says("Throws IndexOutOfBoundsException if feature or segment is not a valid index")
    static void promise65_indexOneOutsideThrows() {
        GlacierCamera x = resting("stake 0 0 40 40;");
        Check.equal("last segment", x.meltInSegment(0, 1), 1000);
        Check.outOfBounds("segment 2 of two", () -> x.meltInSegment(0, 2));
        Check.equal("segments of a lost feature", x.segmentCount(1), 0);
        Check.outOfBounds("segment 0 of none", () -> x.meltInSegment(1, 0));
        Check.outOfBounds("feature 2 of two", () -> x.meltInSegment(2, 0));
        Refusal.outOfBounds("feature 2 of two", y -> y.meltInSegment(2, 0));
        Refusal.outOfBounds("segment 9", y -> y.meltInSegment(0, 9));
        for (int wrong : NO_INDICES) {
            Check.outOfBounds("segment " + wrong, () -> x.meltInSegment(0, wrong));
            Refusal.outOfBounds("feature " + wrong, y -> y.meltInSegment(wrong, 0));
        }
        Check.outOfBounds("no features", () -> new GlacierCamera().meltInSegment(0, 0));
    }

    @Says("Returns the average melt during a segment")
    static void promise65_segmentOverAFrameInWhichTheFeatureIsLost() {
        GlacierCamera x = resting("stake 0 0 40 40;");
        x.setPixel(1, 5, 5, 0);
        x.setPixel(1, 0, 9, 5);
        Check.equal("one segment", x.segmentCount(0), 1);
        Check.equal("over 20 days", x.meltInSegment(0, 0), 2000);
    }
}
