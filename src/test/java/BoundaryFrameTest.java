/** Promises 13 to 19: the boundary cases of frames, pixels, contrast and the reference frame. */
public final class BoundaryFrameTest {
    private static final int NOT_FOUND = -1;
    private static final int[] NO_INDICES = {-1, Integer.MIN_VALUE, Integer.MAX_VALUE};
    private static final String FRAMES = "size 5 4;frame 0 12345 00000 00000 67891;frame 7 90000 00000 00000 00008;"
        + "frame 9999 00001 00000 00000 10000;";

    public static void main(String[] args) {
        Cases.run(BoundaryFrameTest.class);
    }

    private static GlacierCamera three() {
        return Check.loaded(FRAMES);
    }

    private static GlacierCamera six() {
        StringBuilder text = new StringBuilder("size 4 4;");
        for (int i = 0; i < 6; i++) {
            text.append(Scenes.frame(4, 4, 10 * i, 1, 1, 3 + i));
        }
        return Check.loaded(text.toString());
    }

    /** One frame of 5 x 4 pixels with a given row in each of its rows. */
    private static GlacierCamera uniform(String row) {
        return Check.loaded("size 5 4;frame 1 " + row + " " + row + " " + row + " " + row + ";");
    }

    // Promise 13.

    @Says({"There are at most 6 frames, indexed from 0", "A frame is an image taken on a day (0 to 9999)"})
    static void promise13_firstAndLastFrame() {
        GlacierCamera x = three();
        Check.equal("first", x.frameDay(0), 0);
        Check.equal("last", x.frameDay(2), 9999);
        Check.equal("last of six", six().frameDay(5), 50);
    }

    @Says("Throws IndexOutOfBoundsException if frame is not a valid index")
    static void promise13_frameOneOutsideThrows() {
        Refusal.outOfBounds("frameDay(3) of three", x -> x.frameDay(3));
        for (int frame : NO_INDICES) {
            Refusal.outOfBounds("frameDay(" + frame + ")", x -> x.frameDay(frame));
        }
        GlacierCamera x = six();
        Check.outOfBounds("frameDay(6) of six", () -> x.frameDay(6));
        Check.outOfBounds("frameDay(0) of none", () -> new GlacierCamera().frameDay(0));
    }

    @Says("Throws IndexOutOfBoundsException if frame is not a valid index")
    static void promise13_lastIndexGoesWithARemovedFrame() {
        GlacierCamera x = three();
        x.removeFrame(0);
        Check.equal("new last frame", x.frameDay(1), 9999);
        Check.outOfBounds("frameDay(2)", () -> x.frameDay(2));
        x.undo();
        Check.equal("after undo", x.frameDay(2), 9999);
        Check.outOfBounds("frameDay(3)", () -> x.frameDay(3));
    }

    // Promise 14.

    @Says({"Returns 0 to 9", "A pixel has a column x and a row y, counted from 0, and a brightness of 0 to 9"})
    static void promise14_cornersOfTheImage() {
        GlacierCamera x = three();
        Check.equal("upper left", x.pixel(0, 0, 0), 1);
        Check.equal("upper right", x.pixel(0, 4, 0), 5);
        Check.equal("lower left", x.pixel(0, 0, 3), 6);
        Check.equal("lower right", x.pixel(0, 4, 3), 1);
        Check.equal("greatest brightness", x.pixel(1, 0, 0), 9);
        Check.equal("least brightness", x.pixel(1, 4, 0), 0);
        Check.equal("last frame", x.pixel(2, 4, 0), 1);
    }

    @Says("Returns 0 to 9")
    static void promise14_cornersOfTheGreatestImage() {
        GlacierCamera x = Check.loaded("size 12 10;" + Scenes.frame(12, 10, 1, 0, 0, 1, 11, 0, 2, 0, 9, 3, 11, 9, 4));
        Check.equal("upper left", x.pixel(0, 0, 0), 1);
        Check.equal("upper right", x.pixel(0, 11, 0), 2);
        Check.equal("lower left", x.pixel(0, 0, 9), 3);
        Check.equal("lower right", x.pixel(0, 11, 9), 4);
        Check.outOfBounds("column 12", () -> x.pixel(0, 12, 9));
        Check.outOfBounds("row 10", () -> x.pixel(0, 11, 10));
    }

    @Says("Returns 0 to 9")
    static void promise14_cornersOfANarrowAndHighImage() {
        GlacierCamera x = Check.loaded("size 4 10;" + Scenes.frame(4, 10, 1, 3, 0, 2, 0, 9, 3, 3, 9, 4));
        Check.equal("upper right", x.pixel(0, 3, 0), 2);
        Check.equal("lower left", x.pixel(0, 0, 9), 3);
        Check.equal("lower right", x.pixel(0, 3, 9), 4);
        Check.outOfBounds("column 4", () -> x.pixel(0, 4, 0));
        Check.outOfBounds("row 10", () -> x.pixel(0, 0, 10));
        Check.equal("setPixel of column 4", x.setPixel(0, 4, 0, 1), false);
        Check.equal("setPixel of row 10", x.setPixel(0, 0, 10, 1), false);
        Check.equal("setPixel of the last one", x.setPixel(0, 3, 9, 1), true);
    }

    @Says("Throws IndexOutOfBoundsException if frame is not a valid index, or x or y is not in the image")
    static void promise14_frameOneOutsideThrows() {
        Refusal.outOfBounds("pixel(3, 0, 0) of three", x -> x.pixel(3, 0, 0));
        Check.outOfBounds("pixel of no frame", () -> new GlacierCamera().pixel(0, 0, 0));
        for (int frame : NO_INDICES) {
            Refusal.outOfBounds("pixel(" + frame + ", 0, 0)", x -> x.pixel(frame, 0, 0));
        }
    }

    @Says("Throws IndexOutOfBoundsException if frame is not a valid index, or x or y is not in the image")
    static void promise14_pixelOneOutsideThrows() {
        GlacierCamera x = three();
        Check.equal("last column", x.pixel(0, 4, 0), 5);
        Check.outOfBounds("column 5", () -> x.pixel(0, 5, 0));
        Check.equal("last row", x.pixel(0, 0, 3), 6);
        Check.outOfBounds("row 4", () -> x.pixel(0, 0, 4));
        Check.outOfBounds("column 5 of the last row", () -> x.pixel(0, 5, 3));
        for (int wrong : NO_INDICES) {
            Check.outOfBounds("column " + wrong, () -> x.pixel(0, wrong, 1));
            Check.outOfBounds("row " + wrong, () -> x.pixel(0, 1, wrong));
        }
        Refusal.outOfBounds("column 4 of four", y -> y.pixel(0, 4, 0));
        Refusal.outOfBounds("row 4 of four", y -> y.pixel(0, 0, 4));
    }

    // Promise 15.

    @Says({"Returns true if it was set", "a brightness of 0 to 9", "0 to 9"})
    static void promise15_brightnessFrom0To9() {
        GlacierCamera x = three();
        for (int brightness = 0; brightness <= 9; brightness++) {
            Check.equal("set " + brightness, x.setPixel(0, 2, 2, brightness), true);
            Check.equal("brightness", x.pixel(0, 2, 2), brightness);
        }
    }

    @Says("false if frame is not a valid index, x or y is not in the image, or brightness is out of range (nothing changes then)")
    static void promise15_brightnessOneOutside() {
        Refusal.refused("brightness 10", x -> x.setPixel(0, 1, 1, 10), false);
        for (int brightness : NO_INDICES) {
            Refusal.refused("brightness " + brightness, x -> x.setPixel(0, 1, 1, brightness), false);
        }
    }

    @Says("false if frame is not a valid index, x or y is not in the image, or brightness is out of range (nothing changes then)")
    static void promise15_frameOneOutside() {
        Refusal.refused("frame 3 of three", x -> x.setPixel(3, 1, 1, 5), false);
        Refusal.refused("frame 0 of none", GlacierCamera::new, x -> x.setPixel(0, 1, 1, 5), false);
        for (int frame : NO_INDICES) {
            Refusal.refused("frame " + frame, x -> x.setPixel(frame, 1, 1, 5), false);
        }
    }

    @Says("false if frame is not a valid index, x or y is not in the image, or brightness is out of range (nothing changes then)")
    static void promise15_pixelOneOutside() {
        Refusal.refused("column 4 of four", x -> x.setPixel(0, 4, 1, 5), false);
        Refusal.refused("row 4 of four", x -> x.setPixel(0, 1, 4, 5), false);
        Refusal.refused("column 5 of five", BoundaryFrameTest::three, x -> x.setPixel(0, 5, 0, 5), false);
        Refusal.refused("row 4 of a wide image", BoundaryFrameTest::three, x -> x.setPixel(0, 4, 4, 5), false);
        for (int wrong : NO_INDICES) {
            Refusal.refused("column " + wrong, x -> x.setPixel(0, wrong, 1, 5), false);
            Refusal.refused("row " + wrong, x -> x.setPixel(0, 1, wrong, 5), false);
        }
    }

    @Says("Sets the brightness of a pixel")
    static void promise15_cornersAndNothingElse() {
        int[][] corners = {{0, 0, 0}, {0, 4, 0}, {1, 0, 3}, {2, 4, 3}};
        for (int[] corner : corners) {
            GlacierCamera x = three();
            GlacierCamera before = three();
            Check.equal("set", x.setPixel(corner[0], corner[1], corner[2], 4), true);
            Check.equal("brightness", x.pixel(corner[0], corner[1], corner[2]), 4);
            x.undo();
            Check.equal("the rest", State.now(x), State.now(before));
        }
        GlacierCamera great = Check.loaded("size 12 10;" + Scenes.frame(12, 10, 1));
        Check.equal("last pixel", great.setPixel(0, 11, 9, 9), true);
        Check.equal("pixel", great.pixel(0, 11, 9), 9);
        Check.equal("beyond it", great.setPixel(0, 12, 9, 9), false);
        Check.equal("below it", great.setPixel(0, 11, 10, 9), false);
    }

    @Says({"Sets the brightness of a pixel", "Setting a value that is already set is also a change"})
    static void promise15_otherPixelsAndFramesStay() {
        GlacierCamera x = three();
        x.setPixel(1, 2, 1, 7);
        for (int frame = 0; frame < 3; frame++) {
            for (int y = 0; y < 4; y++) {
                for (int column = 0; column < 5; column++) {
                    int due = frame == 1 && y == 1 && column == 2 ? 7 : three().pixel(frame, column, y);
                    Check.equal("pixel " + frame + " " + column + " " + y, x.pixel(frame, column, y), due);
                }
            }
        }
        Check.equal("to what it is", x.setPixel(1, 2, 1, 7), true);
        Check.equal("is a change", x.undoCount(), 2);
    }

    // Promise 16.

    @Says("NOT_FOUND if frame is not a valid index")
    static void promise16_frameOneOutside() {
        Refusal.refused("removeFrame(3) of three", x -> x.removeFrame(3), NOT_FOUND);
        Refusal.refused("removeFrame(0) of none", GlacierCamera::new, x -> x.removeFrame(0), NOT_FOUND);
        Refusal.refused("removeFrame(6) of six", BoundaryFrameTest::six, x -> x.removeFrame(6), NOT_FOUND);
        for (int frame : NO_INDICES) {
            Refusal.refused("removeFrame(" + frame + ")", x -> x.removeFrame(frame), NOT_FOUND);
        }
    }

    @Says({"The indices of the later frames decrease by 1", "Returns the new number of frames"})
    static void promise16_eachFrameOfSix() {
        for (int removed = 0; removed < 6; removed++) {
            GlacierCamera x = six();
            Check.equal("removeFrame", x.removeFrame(removed), 5);
            for (int i = 0; i < 5; i++) {
                int due = i < removed ? i : i + 1;
                Check.equal("day of " + i + " without " + removed, x.frameDay(i), 10 * due);
                Check.equal("pixel of " + i + " without " + removed, x.pixel(i, 1, 1), 3 + due);
            }
            Check.outOfBounds("frame 5", () -> x.frameDay(5));
        }
    }

    @Says("Returns the new number of frames")
    static void promise16_downToNoFrame() {
        GlacierCamera x = six();
        for (int i = 5; i >= 0; i--) {
            Check.equal("removeFrame", x.removeFrame(0), i);
        }
        Check.equal("of none", x.removeFrame(0), NOT_FOUND);
        Check.equal("changes", x.undoCount(), 6);
        GlacierCamera last = six();
        for (int i = 5; i >= 0; i--) {
            Check.equal("removeFrame of the last", last.removeFrame(i), i);
        }
    }

    // Promise 17.

    @Says({"The contrast of a frame is its greatest brightness minus its least", "Returns 0 to 9"})
    static void promise17_contrastFrom0To9() {
        Check.equal("all 0", uniform("00000").contrast(0), 0);
        Check.equal("all 9", uniform("99999").contrast(0), 0);
        Check.equal("0 and 9", uniform("09000").contrast(0), 9);
        Check.equal("8 and 9", uniform("88898").contrast(0), 1);
        Check.equal("1 and 9", uniform("19999").contrast(0), 8);
        Check.equal("0 and 8", uniform("80008").contrast(0), 8);
    }

    @Says("The contrast of a frame is its greatest brightness minus its least")
    static void promise17_eachPixelCounts() {
        GlacierCamera x = uniform("55555");
        for (int y = 0; y < 4; y++) {
            for (int column = 0; column < 5; column++) {
                x.setPixel(0, column, y, 9);
                Check.equal("bright " + column + " " + y, x.contrast(0), 4);
                x.setPixel(0, column, y, 0);
                Check.equal("dark " + column + " " + y, x.contrast(0), 5);
                x.setPixel(0, column, y, 5);
            }
        }
    }

    @Says("Throws IndexOutOfBoundsException if frame is not a valid index")
    static void promise17_frameOneOutsideThrows() {
        Check.equal("last frame", three().contrast(2), 1);
        Refusal.outOfBounds("contrast(3) of three", x -> x.contrast(3));
        Check.outOfBounds("contrast(0) of none", () -> new GlacierCamera().contrast(0));
        for (int frame : NO_INDICES) {
            Refusal.outOfBounds("contrast(" + frame + ")", x -> x.contrast(frame));
        }
    }

    // Promise 18.

    @Says({"A frame is usable if its contrast is at least CONTRAST", "Returns true if it is usable"})
    static void promise18_contrastEqualAndOneLess() {
        for (int contrast = 0; contrast <= 9; contrast++) {
            GlacierCamera x = uniform("0" + contrast + "000");
            for (int needed = 0; needed <= 9; needed++) {
                x.setSetting(GlacierCamera.CONTRAST, needed);
                Check.equal("contrast " + contrast + " at CONTRAST " + needed, x.isUsable(0), contrast >= needed);
            }
        }
    }

    @Says("A frame is usable if its contrast is at least CONTRAST")
    static void promise18_initialContrast2() {
        Check.equal("contrast 1", uniform("99899").isUsable(0), false);
        Check.equal("contrast 2", uniform("99799").isUsable(0), true);
    }

    @Says("Throws IndexOutOfBoundsException if frame is not a valid index")
    static void promise18_frameOneOutsideThrows() {
        Check.equal("last frame", three().isUsable(2), false);
        Refusal.outOfBounds("isUsable(3) of three", x -> x.isUsable(3));
        Check.outOfBounds("isUsable(0) of none", () -> new GlacierCamera().isUsable(0));
        for (int frame : NO_INDICES) {
            Refusal.outOfBounds("isUsable(" + frame + ")", x -> x.isUsable(frame));
        }
    }

    // Promise 19.

    @Says("NOT_FOUND if no frame is usable")
    static void promise19_noFrameAndNoUsableFrame() {
        Check.equal("no frame", new GlacierCamera().referenceFrame(), NOT_FOUND);
        Check.equal("one that is not usable", uniform("11211").referenceFrame(), NOT_FOUND);
        Check.equal("one that is", uniform("11311").referenceFrame(), 0);
    }

    @Says("The reference frame is the first usable frame")
    static void promise19_firstUsableOfSix() {
        GlacierCamera x = six();
        for (int i = 0; i < 6; i++) {
            Check.equal("first usable", x.referenceFrame(), i);
            x.setPixel(i, 1, 1, 1);
        }
        Check.equal("none usable", x.referenceFrame(), NOT_FOUND);
        x.setPixel(3, 1, 1, 2);
        Check.equal("the fourth one again", x.referenceFrame(), 3);
        x.removeFrame(1);
        Check.equal("its index has decreased", x.referenceFrame(), 2);
        x.removeFrame(2);
        Check.equal("it is removed", x.referenceFrame(), NOT_FOUND);
    }

    @Says("The reference frame is the first usable frame")
    static void promise19_anEarlierFrameBecomesUsable() {
        GlacierCamera x = three();
        x.setSetting(GlacierCamera.CONTRAST, 9);
        Check.equal("at CONTRAST 9", x.referenceFrame(), 0);
        x.setPixel(0, 3, 3, 8);
        Check.equal("contrast 8 in the first", x.referenceFrame(), 1);
        x.setSetting(GlacierCamera.CONTRAST, 8);
        Check.equal("at CONTRAST 8", x.referenceFrame(), 0);
    }
}
