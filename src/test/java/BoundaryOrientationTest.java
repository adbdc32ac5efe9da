/** Promises 20 to 23: the boundary cases of orientation, shifts and their error. */
public final class BoundaryOrientationTest {
    private static final int NOT_FOUND = -1;
    private static final int[] NO_INDICES = {-1, Integer.MIN_VALUE, Integer.MAX_VALUE};
    private static final int[][] DIRECTIONS = {{1, 0}, {-1, 0}, {0, 1}, {0, -1}, {1, 1}, {1, -1}, {-1, 1}, {-1, -1}};

    public static void main(String[] args) {
        Cases.run(BoundaryOrientationTest.class);
    }

    private static String dots(int day, int... dots) {
        return Scenes.frame(9, 8, day, dots);
    }

    /** Two images of 9 x 8 pixels, with what stands before the frames; a dot moves from one pixel to another one. */
    private static GlacierCamera moved(String statements, int x, int y, int toX, int toY) {
        return Check.loaded("size 9 8;" + statements + dots(1, x, y, 9) + dots(2, toX, toY, 9));
    }

    private static void shift(String what, GlacierCamera x, int frame, int sx, int sy, int error) {
        Check.equal(what + ": isOriented", x.isOriented(frame), true);
        Check.equal(what + ": shiftX", x.shiftX(frame), sx);
        Check.equal(what + ": shiftY", x.shiftY(frame), sy);
        Check.equal(what + ": shiftError", x.shiftError(frame), error);
    }

    private static void notOriented(String what, GlacierCamera x, int frame) {
        Check.equal(what + ": isOriented", x.isOriented(frame), false);
        Check.equal(what + ": shiftError", x.shiftError(frame), NOT_FOUND);
        Check.illegalState(what + ": shiftX", () -> x.shiftX(frame));
        Check.illegalState(what + ": shiftY", () -> x.shiftY(frame));
    }

    // Which shifts there are.

    @Says("with sx and sy from -SHIFT to SHIFT")
    static void promise21_shiftOfExactlySHIFTAndOneMore() {
        for (int most = 1; most <= 3; most++) {
            for (int[] d : DIRECTIONS) {
                GlacierCamera x = moved("set window 0;control 4 3;", 4, 3, 4 + most * d[0], 3 + most * d[1]);
                x.setSetting(GlacierCamera.SHIFT, most);
                shift("exactly " + most, x, 1, most * d[0], most * d[1], 0);
                x.setSetting(GlacierCamera.SHIFT, most - 1);
                shift("one more than " + (most - 1), x, 1, 0, 0, 9);
            }
        }
    }

    @Says("with sx and sy from -SHIFT to SHIFT")
    static void promise21_columnAndRowOfAShiftEachHaveTheirBound() {
        for (int[] to : new int[][] {{2, 1}, {-2, 1}, {2, -1}, {-2, -1}, {1, 2}, {1, -2}, {-1, 2}, {-1, -2}}) {
            GlacierCamera x = moved("set window 0;set shift 2;control 4 3;", 4, 3, 4 + to[0], 3 + to[1]);
            shift("at SHIFT 2", x, 1, to[0], to[1], 0);
            x.setSetting(GlacierCamera.SHIFT, 1);
            shift("at SHIFT 1", x, 1, 0, 0, 9);
        }
    }

    @Says("SHIFT, the greatest shift of the camera (0 to 3 pixels, initially 1)")
    static void promise22_shift0LeavesOneShift() {
        GlacierCamera x = moved("set window 0;set shift 0;control 4 3;", 4, 3, 4, 4);
        shift("at SHIFT 0", x, 1, 0, 0, 9);
        shift("initially", moved("set window 0;control 4 3;", 4, 3, 4, 4), 1, 0, 1, 0);
        shift("two rows initially", moved("set window 0;control 4 3;", 4, 3, 4, 5), 1, 0, 0, 9);
    }

    // Windows of control points.

    @Says("the windows at (x, y) and at (x + sx, y + sy) are inside")
    static void promise20_windowOfAControlPointJustInside() {
        for (int radius = 0; radius <= 2; radius++) {
            int[][] inside = {{radius, 3}, {8 - radius, 3}, {4, radius}, {4, 7 - radius}};
            for (int[] p : inside) {
                GlacierCamera x = moved("set window " + radius + ";control " + p[0] + " " + p[1] + ";", 4, 3, 4, 3);
                Check.equal("radius " + radius + " at " + p[0] + " " + p[1], x.isOriented(1), true);
            }
        }
    }

    @Says("the windows at (x, y) and at (x + sx, y + sy) are inside")
    static void promise20_windowOfAControlPointOneOutside() {
        for (int radius = 1; radius <= 2; radius++) {
            int[][] outside = {{radius - 1, 3}, {9 - radius, 3}, {4, radius - 1}, {4, 8 - radius}, {0, 0}, {8, 7}};
            for (int[] p : outside) {
                GlacierCamera x = moved("set shift 3;set window " + radius + ";control " + p[0] + " " + p[1] + ";", 4, 3, 4, 3);
                notOriented("radius " + radius + " at " + p[0] + " " + p[1], x, 1);
                shift("the reference frame", x, 0, 0, 0, 0);
            }
        }
    }

    @Says("the windows at (x, y) and at (x + sx, y + sy) are inside")
    static void promise21_shiftedWindowJustInsideAndOneOutside() {
        for (int radius = 1; radius <= 2; radius++) {
            int[][] points = {{radius + 1, 3, -1, 0}, {7 - radius, 3, 1, 0}, {4, radius + 1, 0, -1}, {4, 6 - radius, 0, 1}};
            for (int[] p : points) {
                String statements = "set shift 3;set window " + radius + ";control " + p[0] + " " + p[1] + ";";
                GlacierCamera inside = moved(statements, p[0], p[1], p[0] + p[2], p[1] + p[3]);
                shift("inside, radius " + radius, inside, 1, p[2], p[3], 0);
                GlacierCamera outside = moved(statements, p[0], p[1], p[0] + 2 * p[2], p[1] + 2 * p[3]);
                Check.equal("outside, radius " + radius, outside.isOriented(1), true);
                Check.equal("outside, radius " + radius + ": error", outside.shiftError(1) > 0, true);
                Check.equal("outside, radius " + radius + ": shift",
                    outside.shiftX(1) == 2 * p[2] && outside.shiftY(1) == 2 * p[3], false);
            }
        }
    }

    @Says("the windows at (x, y) and at (x + sx, y + sy) are inside")
    static void promise23_shiftOneOutsideDoesNotCount() {
        // The dot moves by 2 to the left edge, where no window fits; unmoved, it is in the first window only.
        GlacierCamera x = moved("set shift 3;control 2 3;", 2, 3, 0, 3);
        shift("two columns", x, 1, 0, 0, 9);
        GlacierCamera y = moved("set shift 3;control 4 5;", 4, 5, 4, 7);
        shift("two rows", y, 1, 0, 0, 9);
        GlacierCamera single = moved("set window 0;set shift 3;control 0 0;", 0, 0, 3, 3);
        shift("from the corner", single, 1, 3, 3, 0);
    }

    @Says("counts if, for each control point (x, y)")
    static void promise21_everyControlPointMustAllowTheShift() {
        String sides = "set window 0;control 0 3;control 8 3;control 4 0;control 4 7;";
        shift("points at all sides", moved(sides, 0, 3, 1, 3), 1, 0, 0, 9);
        shift("points at left and right", moved("set window 0;control 0 3;control 8 3;", 0, 3, 0, 4), 1, 0, 1, 0);
        shift("a point at the right alone", moved("set window 0;control 8 3;", 8, 3, 7, 3), 1, -1, 0, 0);
        shift("and one at the left", moved("set window 0;control 8 3;control 0 3;", 8, 3, 7, 3), 1, 0, 0, 9);
    }

    @Says("counts if, for each control point (x, y)")
    static void promise20_oneControlPointOfFourOutside() {
        for (int outside = 0; outside < 4; outside++) {
            StringBuilder statements = new StringBuilder();
            for (int i = 0; i < 4; i++) {
                statements.append(i == outside ? "control 0 3;" : "control 4 3;");
            }
            notOriented("the point " + outside, moved(statements.toString(), 4, 3, 4, 3), 1);
        }
        shift("none outside", moved("control 4 3;".repeat(4), 4, 3, 4, 3), 1, 0, 0, 0);
    }

    @Says("counts if, for each control point (x, y)")
    static void promise20_windowThatFitsNowhereInTheImage() {
        String frames = Scenes.frame(4, 4, 1, 1, 1, 9) + Scenes.frame(4, 4, 2, 1, 1, 9);
        GlacierCamera x = Check.loaded("size 4 4;set window 2;set shift 3;control 1 1;" + frames);
        notOriented("radius 2 in 4 x 4", x, 1);
        x.setSetting(GlacierCamera.WINDOW, 1);
        shift("radius 1 in 4 x 4", x, 1, 0, 0, 0);
        GlacierCamera five = Check.loaded("size 5 5;set window 2;set shift 3;control 2 2;" + Scenes.frame(5, 5, 1, 2, 2, 9)
            + Scenes.frame(5, 5, 2, 3, 2, 9));
        shift("radius 2 in 5 x 5", five, 1, 0, 0, 18);
    }

    // Errors.

    @Says("Its error is the sum, over all control points, of the mismatch of the window")
    static void promise23_leastAndGreatestError() {
        String dark = Scenes.frame(9, 8, 1);
        String bright = Scenes.frame(9, 8, 2).replace("000000000", "999999999");
        GlacierCamera x = Check.loaded("size 9 8;set contrast 0;set window 2;control 2 2;control 6 2;control 2 5;control 6 5;"
            + dark + bright);
        shift("4 points of 25 pixels by 9", x, 1, 0, 0, 900);
        x.setSetting(GlacierCamera.WINDOW, 1);
        shift("4 points of 9 pixels by 9", x, 1, 0, 0, 324);
        x.setSetting(GlacierCamera.WINDOW, 0);
        shift("4 points of 1 pixel by 9", x, 1, 0, 0, 36);
        x.removeFrame(1);
        shift("the reference frame", x, 0, 0, 0, 0);
    }

    @Says("The shift of the frame is the one with the least error")
    static void promise23_errorOneLessFarAway() {
        String start = "size 9 8;set window 0;set shift 3;control 4 3;" + dots(1, 4, 3, 5);
        shift("one less", Check.loaded(start + dots(2, 4, 3, 4, 7, 6, 5)), 1, 3, 3, 0);
        shift("one less, brighter", Check.loaded(start + dots(2, 4, 3, 7, 1, 0, 6)), 1, -3, -3, 1);
        shift("equal", Check.loaded(start + dots(2, 4, 3, 4, 7, 6, 6)), 1, 0, 0, 1);
        shift("equal to 0", Check.loaded(start + dots(2, 4, 3, 5, 7, 6, 5)), 1, 0, 0, 0);
    }

    @Says("The window at pixel (x, y) consists of all pixels whose columns and rows differ from x and y by at most WINDOW")
    static void promise23_pixelInTheCornerOfAWindowAndOneOutside() {
        for (int radius = 0; radius <= 2; radius++) {
            for (int[] d : DIRECTIONS) {
                GlacierCamera x = moved("set shift 0;set window " + radius + ";control 4 3;", 0, 0, 0, 0);
                x.setPixel(1, 4 + radius * d[0], 3 + radius * d[1], 5);
                shift("at distance " + radius, x, 1, 0, 0, 5);
                x.undo();
                x.setPixel(1, 4 + (radius + 1) * d[0], 3 + (radius + 1) * d[1], 5);
                shift("at distance " + (radius + 1), x, 1, 0, 0, 0);
            }
        }
    }

    // Ties.

    @Says("ties are broken by the least |sx| + |sy|, then by the least sy, then by the least sx")
    static void promise21_tieBrokenByTheLeastSum() {
        String start = "size 9 8;set window 0;set shift 3;control 4 3;" + dots(1, 4, 3, 5);
        shift("1 and 2", Check.loaded(start + dots(2, 3, 2, 5, 5, 3, 5)), 1, 1, 0, 0);
        shift("1 and 2 below", Check.loaded(start + dots(2, 4, 1, 5, 4, 4, 5)), 1, 0, 1, 0);
        shift("3 and 4", Check.loaded(start + dots(2, 4, 6, 5, 2, 1, 5)), 1, 0, 3, 0);
        shift("5 and 6", Check.loaded(start + dots(2, 7, 5, 5, 1, 0, 5)), 1, 3, 2, 0);
        shift("0 and 1", Check.loaded(start + dots(2, 4, 3, 5, 4, 2, 5, 3, 3, 5)), 1, 0, 0, 0);
    }

    @Says("ties are broken by the least |sx| + |sy|, then by the least sy, then by the least sx")
    static void promise22_tieOfTheSumBrokenByTheLeastRow() {
        String start = "size 9 8;set window 0;set shift 3;control 4 3;" + dots(1, 4, 3, 5);
        shift("all four of sum 1", Check.loaded(start + dots(2, 3, 3, 5, 4, 2, 5, 5, 3, 5, 4, 4, 5)), 1, 0, -1, 0);
        shift("left and below", Check.loaded(start + dots(2, 3, 3, 5, 4, 4, 5)), 1, -1, 0, 0);
        shift("right above and left below", Check.loaded(start + dots(2, 6, 2, 5, 2, 4, 5)), 1, 2, -1, 0);
        shift("rows -2 and -1", Check.loaded(start + dots(2, 5, 1, 5, 2, 2, 5)), 1, 1, -2, 0);
    }

    @Says("ties are broken by the least |sx| + |sy|, then by the least sy, then by the least sx")
    static void promise21_tieOfSumAndRowBrokenByTheLeastColumn() {
        String start = "size 9 8;set window 0;set shift 3;control 4 3;" + dots(1, 4, 3, 5);
        shift("left and right", Check.loaded(start + dots(2, 5, 3, 5, 3, 3, 5)), 1, -1, 0, 0);
        shift("below, left and right", Check.loaded(start + dots(2, 6, 4, 5, 2, 4, 5)), 1, -2, 1, 0);
        shift("above, left and right", Check.loaded(start + dots(2, 7, 0, 5, 1, 0, 5)), 1, -3, -3, 0);
    }

    // Frames that are always, or never, oriented.

    @Says("The shift of the reference frame is always (0, 0), with error 0")
    static void promise20_referenceFrameWhoseControlPointHasNoWindow() {
        GlacierCamera x = moved("set window 2;control 0 0;control 8 7;", 4, 3, 4, 3);
        shift("reference frame", x, 0, 0, 0, 0);
        notOriented("the other one", x, 1);
    }

    @Says("The shift of the reference frame is always (0, 0), with error 0")
    static void promise21_referenceFrameThatIsNotTheFirstFrame() {
        GlacierCamera x = Check.loaded("size 9 8;set window 0;control 4 3;" + dots(1) + dots(2, 4, 3, 9) + dots(3, 5, 3, 9));
        notOriented("an unusable frame before it", x, 0);
        shift("reference frame", x, 1, 0, 0, 0);
        shift("the next one", x, 2, 1, 0, 0);
        x.setPixel(0, 4, 3, 7);
        shift("the first one becomes usable", x, 0, 0, 0, 0);
        shift("the second one against it", x, 1, 0, 0, 2);
        shift("the third one against it", x, 2, 1, 0, 2);
    }

    @Says("Without control points, all shifts have error 0")
    static void promise23_withoutControlPoints() {
        GlacierCamera x = moved("set shift 3;set window 2;", 4, 3, 6, 5);
        shift("two different images", x, 1, 0, 0, 0);
        GlacierCamera small = Check.loaded("size 4 4;set shift 3;set window 2;" + Scenes.frame(4, 4, 1, 1, 1, 9)
            + Scenes.frame(4, 4, 2, 3, 3, 2));
        shift("a window that fits nowhere", small, 1, 0, 0, 0);
    }

    @Says({"A frame is oriented if it is the reference frame, or if it is usable and a shift counts", "Returns true if it is oriented"})
    static void promise20_frameWithContrastEqualAndOneLess() {
        GlacierCamera x = moved("set contrast 5;control 4 3;", 4, 3, 4, 3);
        x.setPixel(1, 4, 3, 5);
        shift("contrast 5", x, 1, 0, 0, 4);
        x.setPixel(1, 4, 3, 4);
        notOriented("contrast 4", x, 1);
        x.setSetting(GlacierCamera.CONTRAST, 4);
        shift("at CONTRAST 4", x, 1, 0, 0, 5);
    }

    @Says("A frame is oriented if it is the reference frame, or if it is usable and a shift counts")
    static void promise20_noUsableFrame() {
        GlacierCamera x = Check.loaded("size 9 8;" + dots(1, 4, 3, 1) + dots(2, 4, 3, 1));
        notOriented("first", x, 0);
        notOriented("second", x, 1);
        x.setSetting(GlacierCamera.CONTRAST, 1);
        shift("first, usable", x, 0, 0, 0, 0);
        shift("second, usable", x, 1, 0, 0, 0);
    }

    @Says("A frame is oriented if it is the reference frame, or if it is usable and a shift counts")
    static void promise20_framesThatAreUsableNoLonger() {
        int[][] contrasts = {{3, 4, 5, 6, 7, 8}, {8, 7, 6, 5, 4, 3}, {4, 8, 5, 7, 6, 3}};
        for (int[] own : contrasts) {
            StringBuilder text = new StringBuilder("size 9 8;");
            for (int i = 0; i < 6; i++) {
                text.append(dots(i, 4, 3, own[i]));
            }
            GlacierCamera x = Check.loaded(text.toString());
            for (int contrast = 0; contrast <= 9; contrast++) {
                x.setSetting(GlacierCamera.CONTRAST, contrast);
                for (int frame = 0; frame < 6; frame++) {
                    Check.equal("frame " + frame + " at CONTRAST " + contrast, x.isOriented(frame), own[frame] >= contrast);
                }
            }
            x.removeFrame(0);
            x.setSetting(GlacierCamera.CONTRAST, 6);
            for (int frame = 0; frame < 5; frame++) {
                Check.equal("frame " + frame + " without the first one", x.isOriented(frame), own[frame + 1] >= 6);
            }
        }
    }

    @Says("A frame is oriented if it is the reference frame, or if it is usable and a shift counts")
    static void promise20_lastOfSixFrames() {
        StringBuilder text = new StringBuilder("size 9 8;set window 0;control 4 3;");
        for (int i = 0; i < 6; i++) {
            text.append(dots(i, 4 + i % 2, 3, 9));
        }
        GlacierCamera x = Check.loaded(text.toString());
        for (int i = 0; i < 6; i++) {
            shift("frame " + i, x, i, i % 2, 0, 0);
        }
    }

    // Wrong indices and frames that are not oriented.

    @Says("Throws IndexOutOfBoundsException if frame is not a valid index")
    static void promise20_frameOneOutsideThrows() {
        Refusal.refused("isOriented(2), the last of three", x -> x.isOriented(2), false);
        Refusal.outOfBounds("isOriented(3) of three", x -> x.isOriented(3));
        Check.outOfBounds("isOriented(0) of none", () -> new GlacierCamera().isOriented(0));
        for (int frame : NO_INDICES) {
            Refusal.outOfBounds("isOriented(" + frame + ")", x -> x.isOriented(frame));
        }
    }

    @Says({"Throws IndexOutOfBoundsException if frame is not a valid index (checked first)",
        "Throws IllegalStateException if the frame is not oriented"})
    static void promise21_frameOneOutsideThrowsBeforeOrientation() {
        Refusal.refused("shiftX(2), not oriented", x -> x.shiftX(2), "throws.IllegalStateException");
        Refusal.outOfBounds("shiftX(3) of three", x -> x.shiftX(3));
        Check.outOfBounds("shiftX(0) of none", () -> new GlacierCamera().shiftX(0));
        for (int frame : NO_INDICES) {
            Refusal.outOfBounds("shiftX(" + frame + ")", x -> x.shiftX(frame));
        }
    }

    @Says({"Throws IndexOutOfBoundsException if frame is not a valid index (checked first)",
        "Throws IllegalStateException if the frame is not oriented"})
    static void promise22_frameOneOutsideThrowsBeforeOrientation() {
        Refusal.refused("shiftY(2), not oriented", x -> x.shiftY(2), "throws.IllegalStateException");
        Refusal.outOfBounds("shiftY(3) of three", x -> x.shiftY(3));
        Check.outOfBounds("shiftY(0) of none", () -> new GlacierCamera().shiftY(0));
        for (int frame : NO_INDICES) {
            Refusal.outOfBounds("shiftY(" + frame + ")", x -> x.shiftY(frame));
        }
    }

    @Says({"Throws IndexOutOfBoundsException if frame is not a valid index", "NOT_FOUND if the frame is not oriented"})
    static void promise23_frameOneOutsideThrows() {
        Refusal.refused("shiftError(2), not oriented", x -> x.shiftError(2), NOT_FOUND);
        Refusal.outOfBounds("shiftError(3) of three", x -> x.shiftError(3));
        Check.outOfBounds("shiftError(0) of none", () -> new GlacierCamera().shiftError(0));
        for (int frame : NO_INDICES) {
            Refusal.outOfBounds("shiftError(" + frame + ")", x -> x.shiftError(frame));
        }
    }
}
