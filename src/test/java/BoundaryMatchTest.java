/** Promises 24 to 26: the boundary cases of matches, their mismatch and their margin. */
public final class BoundaryMatchTest {
    private static final int NOT_FOUND = -1;
    private static final int[] NO_INDICES = {-1, Integer.MIN_VALUE, Integer.MAX_VALUE};
    private static final int[][] DIRECTIONS = {{1, 0}, {-1, 0}, {0, 1}, {0, -1}, {1, 1}, {1, -1}, {-1, 1}, {-1, -1}};

    public static void main(String[] args) {
        Cases.run(BoundaryMatchTest.class);
    }

    private static String dots(int day, int... dots) {
        return Scenes.frame(12, 10, day, dots);
    }

    private static GlacierCamera loaded(String statements) {
        return Check.loaded("size 12 10;" + statements);
    }

    /** Compares all three answers of a match from the pixel (x, y) of frame 0 to frame 1. */
    private static void match(String what, GlacierCamera camera, int x, int y, int column, int row, int error, int margin) {
        Check.equal(what + ": match", camera.match(0, x, y, 1), 16 * column + row);
        Check.equal(what + ": matchError", camera.matchError(0, x, y, 1), error);
        Check.equal(what + ": matchMargin", camera.matchMargin(0, x, y, 1), margin);
    }

    private static void none(String what, GlacierCamera camera, int from, int x, int y, int to) {
        Check.equal(what + ": match", camera.match(from, x, y, to), NOT_FOUND);
        Check.equal(what + ": matchError", camera.matchError(from, x, y, to), NOT_FOUND);
        Check.equal(what + ": matchMargin", camera.matchMargin(from, x, y, to), NOT_FOUND);
    }

    /** The camera shifts by (sx, sy), which a dot at (4, 3) shows; 8 x 6 pixels, windows of a single pixel, RANGE 1. */
    private static GlacierCamera shifted(int sx, int sy) {
        GlacierCamera x = Check.loaded("size 8 6;set window 0;set range 1;set shift 3;control 4 3;"
            + Scenes.frame(8, 6, 1, 4, 3, 9) + Scenes.frame(8, 6, 2, 4 + sx, 3 + sy, 9));
        Check.equal("shiftX", x.shiftX(1), sx);
        Check.equal("shiftY", x.shiftY(1), sy);
        return x;
    }

    // Windows inside.

    @Says({"There is no match if the window at (x, y) is not inside", "It is inside if all these pixels are in the image"})
    static void promise24_windowInsideAtEachPixelOfTheImage() {
        for (int radius = 0; radius <= 2; radius++) {
            GlacierCamera camera = loaded("set window " + radius + ";" + dots(1, 0, 0, 9));
            for (int y = 0; y < 10; y++) {
                for (int x = 0; x < 12; x++) {
                    boolean inside = x >= radius && x <= 11 - radius && y >= radius && y <= 9 - radius;
                    Check.equal("radius " + radius + " at " + x + " " + y, camera.match(0, x, y, 0), inside ? 16 * x + y : NOT_FOUND);
                }
            }
        }
    }

    @Says("There is no match if the window at (x, y) is not inside")
    static void promise25_windowOneOutsideHasNoMismatch() {
        GlacierCamera x = loaded(dots(1, 5, 5, 9) + dots(2, 5, 5, 9));
        int[][] outside = {{0, 4}, {11, 4}, {4, 0}, {4, 9}};
        int[][] inside = {{1, 4}, {10, 4}, {4, 1}, {4, 8}};
        for (int i = 0; i < 4; i++) {
            none("outside", x, 0, outside[i][0], outside[i][1], 1);
            Check.equal("inside", x.matchError(0, inside[i][0], inside[i][1], 1), 0);
        }
    }

    @Says("It is inside if all these pixels are in the image")
    static void promise24_windowInTheSmallestImages() {
        GlacierCamera four = Check.loaded("size 4 4;set window 2;" + Scenes.frame(4, 4, 1, 1, 1, 9));
        for (int y = 0; y < 4; y++) {
            for (int x = 0; x < 4; x++) {
                none("radius 2 in 4 x 4", four, 0, x, y, 0);
            }
        }
        GlacierCamera five = Check.loaded("size 5 5;set window 2;" + Scenes.frame(5, 5, 1, 1, 1, 9));
        for (int y = 0; y < 5; y++) {
            for (int x = 0; x < 5; x++) {
                Check.equal("radius 2 in 5 x 5", five.match(0, x, y, 0), x == 2 && y == 2 ? 34 : NOT_FOUND);
            }
        }
        GlacierCamera wide = Check.loaded("size 12 4;set window 2;" + Scenes.frame(12, 4, 1, 1, 1, 9));
        none("radius 2 in 12 x 4", wide, 0, 5, 2, 0);
    }

    @Says("It is inside if all these pixels are in the image")
    static void promise25_windowInANarrowAndHighImage() {
        for (int radius = 0; radius <= 1; radius++) {
            GlacierCamera camera = Check.loaded("size 4 10;set range 1;set window " + radius + ";"
                + Scenes.frame(4, 10, 1, 1, 8, 9, 2, 1, 9) + Scenes.frame(4, 10, 2, 2, 7, 9, 1, 2, 9));
            for (int y = 0; y < 10; y++) {
                for (int x = 0; x < 4; x++) {
                    boolean inside = x >= radius && x <= 3 - radius && y >= radius && y <= 9 - radius;
                    Check.equal("radius " + radius + " at " + x + " " + y, camera.match(0, x, y, 0), inside ? 16 * x + y : NOT_FOUND);
                }
            }
            Check.equal("down: match", camera.match(0, 2, 1, 1), 16 + 2);
            Check.equal("down: mismatch", camera.matchError(0, 2, 1, 1), 0);
            Check.equal("up: match", camera.match(0, 1, 8, 1), 16 * 2 + 7);
            Check.equal("up: mismatch", camera.matchError(0, 1, 8, 1), 0);
            Check.equal("margin", camera.matchMargin(0, 1, 8, 1), radius == 0 ? 9 : 18);
        }
    }

    // Candidates.

    @Says("The candidates are the pixels whose columns and rows each differ from the expected pixel by at most RANGE")
    static void promise24_distanceOfExactlyRANGEAndOneMore() {
        for (int range = 1; range <= 4; range++) {
            for (int[] d : DIRECTIONS) {
                String start = "set window 0;set range " + range + ";" + dots(1, 5, 4, 9);
                GlacierCamera near = loaded(start + dots(2, 5 + range * d[0], 4 + range * d[1], 9));
                match("at RANGE", near, 5, 4, 5 + range * d[0], 4 + range * d[1], 0, 9);
                int row = 4 + (range + 1) * d[1];
                if (row >= 0) {
                    GlacierCamera far = loaded(start + dots(2, 5 + (range + 1) * d[0], row, 9));
                    match("beyond RANGE", far, 5, 4, 5, 4, 9, 0);
                }
            }
        }
    }

    @Says("The candidates are the pixels whose columns and rows each differ from the expected pixel by at most RANGE")
    static void promise24_columnAndRowEachHaveTheirBound() {
        String start = "set window 0;set range 2;" + dots(1, 5, 4, 9);
        for (int[] d : DIRECTIONS) {
            if (d[0] != 0 && d[1] != 0) {
                match("2 and 1", loaded(start + dots(2, 5 + 2 * d[0], 4 + d[1], 9)), 5, 4, 5 + 2 * d[0], 4 + d[1], 0, 9);
                match("3 and 1", loaded(start + dots(2, 5 + 3 * d[0], 4 + d[1], 9)), 5, 4, 5, 4, 9, 0);
                match("1 and 3", loaded(start + dots(2, 5 + d[0], 4 + 3 * d[1], 9)), 5, 4, 5, 4, 9, 0);
            }
        }
    }

    @Says("by at most RANGE and whose windows are inside")
    static void promise24_candidateWithItsWindowJustInsideAndOneOutside() {
        String two = "set range 1;set window 2;";
        match("column 2", loaded(two + dots(1, 3, 4, 9) + dots(2, 2, 4, 9)), 3, 4, 2, 4, 0, 18);
        match("column 1", loaded(two + dots(1, 2, 4, 9) + dots(2, 1, 4, 9)), 2, 4, 2, 4, 18, 0);
        match("column 9", loaded(two + dots(1, 8, 4, 9) + dots(2, 9, 4, 9)), 8, 4, 9, 4, 0, 18);
        match("column 10", loaded(two + dots(1, 9, 4, 9) + dots(2, 10, 4, 9)), 9, 4, 9, 4, 18, 0);
        match("row 2", loaded(two + dots(1, 5, 3, 9) + dots(2, 5, 2, 9)), 5, 3, 5, 2, 0, 18);
        match("row 1", loaded(two + dots(1, 5, 2, 9) + dots(2, 5, 1, 9)), 5, 2, 5, 2, 18, 0);
        match("row 7", loaded(two + dots(1, 5, 6, 9) + dots(2, 5, 7, 9)), 5, 6, 5, 7, 0, 18);
        match("row 8", loaded(two + dots(1, 5, 7, 9) + dots(2, 5, 8, 9)), 5, 7, 5, 7, 18, 0);
    }

    @Says("There is no match if the window at (x, y) is not inside or there is no candidate")
    static void promise24_expectedPixelSoFarOutsideThatThereIsNoCandidate() {
        GlacierCamera x = shifted(3, 0);
        Check.equal("expected column 8", x.match(0, 5, 1, 1), 16 * 7 + 1);
        none("expected column 9", x, 0, 6, 1, 1);
        Check.equal("back to column -1", x.match(1, 2, 1, 0), 1);
        none("back to column -2", x, 1, 1, 1, 0);
        GlacierCamera y = shifted(0, 2);
        Check.equal("expected row 6", y.match(0, 1, 4, 1), 16 + 5);
        none("expected row 7", y, 0, 1, 5, 1);
        Check.equal("back to row -1", y.match(1, 1, 1, 0), 16);
        none("back to row -2", y, 1, 1, 0, 0);
        y.setSetting(GlacierCamera.RANGE, 2);
        Check.equal("row 7 at RANGE 2", y.match(0, 1, 5, 1), 16 + 5);
    }

    // The expected pixel.

    @Says("The expected pixel is (x, y) plus the shift of the second frame minus the shift of the first one")
    static void promise24_expectedPixelBetweenTwoShiftedFrames() {
        GlacierCamera x = Check.loaded("size 9 8;set window 0;set range 1;set shift 3;control 4 3;"
            + Scenes.frame(9, 8, 1, 4, 3, 9) + Scenes.frame(9, 8, 2, 6, 2, 9) + Scenes.frame(9, 8, 3, 3, 4, 9));
        Check.equal("from the reference frame", x.match(0, 1, 5, 1), 16 * 3 + 4);
        Check.equal("to the reference frame", x.match(1, 3, 4, 0), 16 + 5);
        Check.equal("from the second to the third frame", x.match(1, 5, 1, 2), 16 * 2 + 3);
        Check.equal("from the third to the second frame", x.match(2, 2, 3, 1), 16 * 5 + 1);
        Check.equal("in the second frame itself", x.match(1, 5, 1, 1), 16 * 5 + 1);
    }

    @Says("index of another frame, or the same one")
    static void promise24_matchInTheSameFrame() {
        GlacierCamera x = loaded("set window 0;" + dots(1, 5, 4, 9));
        Check.equal("dot", x.match(0, 5, 4, 0), 16 * 5 + 4);
        Check.equal("dark pixel", x.match(0, 6, 4, 0), 16 * 6 + 4);
        Check.equal("a frame that is not the reference frame", shifted(2, 1).match(1, 7, 5, 1), 16 * 7 + 5);
    }

    @Says("index of another frame, or the same one")
    static void promise25_mismatchInTheSameFrame() {
        GlacierCamera x = loaded(dots(1, 5, 4, 9) + dots(2, 6, 4, 3));
        Check.equal("dot", x.matchError(0, 5, 4, 0), 0);
        Check.equal("dot of the other frame", x.matchError(1, 6, 4, 1), 0);
        Check.equal("another frame", x.matchError(0, 5, 4, 1), 6);
    }

    @Says("index of another frame, or the same one")
    static void promise26_marginInTheSameFrame() {
        GlacierCamera x = loaded("set window 0;" + dots(1, 5, 4, 9) + dots(2, 6, 4, 3));
        Check.equal("dot", x.matchMargin(0, 5, 4, 0), 9);
        Check.equal("dark pixel", x.matchMargin(0, 6, 4, 0), 0);
        Check.equal("dot of the other frame", x.matchMargin(1, 6, 4, 1), 3);
        Check.equal("another frame", x.matchMargin(0, 5, 4, 1), 3);
    }

    @Says("Returns 16 times the column plus the row of the match")
    static void promise24_cornersOfTheGreatestImage() {
        GlacierCamera x = loaded("set window 0;" + dots(1, 0, 0, 9) + dots(2, 0, 0, 9));
        Check.equal("upper left", x.match(0, 0, 0, 1), 0);
        Check.equal("upper right", x.match(0, 11, 0, 1), 176);
        Check.equal("lower left", x.match(0, 0, 9, 1), 9);
        Check.equal("lower right", x.match(0, 11, 9, 1), 185);
    }

    // Mismatches and ties.

    @Says("the absolute differences of the brightness of corresponding pixels")
    static void promise25_leastAndGreatestMismatch() {
        GlacierCamera x = loaded("set contrast 0;set window 2;" + dots(1) + dots(2).replace("0000", "9999"));
        for (int radius = 2; radius >= 0; radius--) {
            x.setSetting(GlacierCamera.WINDOW, radius);
            match("radius " + radius, x, 5, 4, 5, 4, 9 * (2 * radius + 1) * (2 * radius + 1), 0);
            Check.equal("backwards", x.matchError(1, 5, 4, 0), 9 * (2 * radius + 1) * (2 * radius + 1));
            Check.equal("with itself", x.matchError(1, 5, 4, 1), 0);
        }
    }

    @Says("The match is the candidate with the least mismatch between its window in the second frame and the window")
    static void promise24_mismatchOneLessFarAway() {
        String start = "set window 0;" + dots(1, 5, 4, 5);
        match("one less", loaded(start + dots(2, 5, 4, 4, 7, 6, 5)), 5, 4, 7, 6, 0, 1);
        match("one less, brighter", loaded(start + dots(2, 5, 4, 7, 3, 2, 6)), 5, 4, 3, 2, 1, 1);
        match("equal", loaded(start + dots(2, 5, 4, 4, 7, 6, 6)), 5, 4, 5, 4, 1, 0);
    }

    @Says("ties are broken by the least sum of the absolute differences of column and row from the expected pixel")
    static void promise24_tieBrokenByTheLeastSum() {
        String start = "set window 0;set range 4;" + dots(1, 5, 4, 5);
        match("1 and 2", loaded(start + dots(2, 4, 3, 5, 6, 4, 5)), 5, 4, 6, 4, 0, 0);
        match("3 and 4", loaded(start + dots(2, 5, 7, 5, 3, 2, 5)), 5, 4, 5, 7, 0, 0);
        match("7 and 8", loaded(start + dots(2, 9, 7, 5, 1, 0, 5)), 5, 4, 9, 7, 0, 0);
        match("0 and 1", loaded(start + dots(2, 5, 4, 5, 5, 3, 5, 4, 4, 5)), 5, 4, 5, 4, 0, 0);
    }

    @Says("ties are broken by the least sum of the absolute differences of column and row from the expected pixel")
    static void promise24_tieAroundAnExpectedPixelThatIsShifted() {
        GlacierCamera x = shifted(2, 0);
        x.setPixel(0, 1, 3, 5);
        x.setPixel(1, 2, 3, 5);
        x.setPixel(1, 4, 4, 5);
        Check.equal("one column from the expected pixel", x.match(0, 1, 3, 1), 16 * 2 + 3);
        x.setPixel(1, 3, 2, 5);
        Check.equal("one row from the expected pixel", x.match(0, 1, 3, 1), 16 * 3 + 2);
    }

    @Says("then by the least row, then by the least column")
    static void promise24_tieOfTheSumBrokenByTheLeastRow() {
        String start = "set window 0;" + dots(1, 5, 4, 5);
        match("all four of sum 1", loaded(start + dots(2, 4, 4, 5, 5, 3, 5, 6, 4, 5, 5, 5, 5)), 5, 4, 5, 3, 0, 0);
        match("left and below", loaded(start + dots(2, 4, 4, 5, 5, 5, 5)), 5, 4, 4, 4, 0, 0);
        match("right above and left below", loaded(start + dots(2, 7, 3, 5, 3, 5, 5)), 5, 4, 7, 3, 0, 0);
        match("rows -2 and -1", loaded(start + dots(2, 6, 2, 5, 3, 3, 5)), 5, 4, 6, 2, 0, 0);
    }

    @Says("then by the least row, then by the least column")
    static void promise24_tieOfSumAndRowBrokenByTheLeastColumn() {
        String start = "set window 0;" + dots(1, 5, 4, 5);
        match("left and right", loaded(start + dots(2, 6, 4, 5, 4, 4, 5)), 5, 4, 4, 4, 0, 0);
        match("below, left and right", loaded(start + dots(2, 7, 5, 5, 3, 5, 5)), 5, 4, 3, 5, 0, 0);
        match("above, left and right", loaded(start + dots(2, 7, 2, 5, 3, 2, 5)), 5, 4, 3, 2, 0, 0);
    }

    // Margins.

    @Says("(which may be equal to the least) minus the least")
    static void promise26_secondLeastEqualToTheLeastAndOneMore() {
        String start = "set window 0;" + dots(1, 5, 4, 5);
        match("equal", loaded(start + dots(2, 5, 4, 5, 6, 4, 5)), 5, 4, 5, 4, 0, 0);
        match("one more", loaded(start + dots(2, 5, 4, 5, 6, 4, 4)), 5, 4, 5, 4, 0, 1);
        match("one more on the other side", loaded(start + dots(2, 5, 4, 5, 4, 4, 6)), 5, 4, 5, 4, 0, 1);
        match("greatest", loaded("set window 0;" + dots(1, 5, 4, 9) + dots(2, 5, 4, 9)), 5, 4, 5, 4, 0, 9);
        match("second and third", loaded(start + dots(2, 3, 2, 3, 5, 4, 5, 7, 6, 4)), 5, 4, 5, 4, 0, 1);
        match("third and second", loaded(start + dots(2, 3, 2, 4, 5, 4, 5, 7, 6, 3)), 5, 4, 5, 4, 0, 1);
    }

    @Says("there is no match, or there is only one candidate")
    static void promise26_oneCandidateAndTwo() {
        GlacierCamera x = shifted(3, 2);
        Check.equal("one candidate", x.match(0, 5, 4, 1), 16 * 7 + 5);
        Check.equal("its mismatch", x.matchError(0, 5, 4, 1), 9);
        Check.equal("its margin", x.matchMargin(0, 5, 4, 1), NOT_FOUND);
        x.setPixel(1, 7, 5, 4);
        Check.equal("two candidates", x.match(0, 5, 3, 1), 16 * 7 + 4);
        Check.equal("margin of two candidates", x.matchMargin(0, 5, 3, 1), 4);
        x.setPixel(0, 5, 3, 2);
        Check.equal("margin of two equal candidates", x.matchMargin(0, 5, 3, 1), 0);
        Check.equal("their mismatch", x.matchError(0, 5, 3, 1), 2);
        Check.equal("the nearer one", x.match(0, 5, 3, 1), 16 * 7 + 5);
        none("no candidate", x, 0, 6, 4, 1);
    }

    @Says("there is no match, or there is only one candidate")
    static void promise26_oneWindowInTheImage() {
        GlacierCamera five = Check.loaded("size 5 5;set window 2;set range 4;" + Scenes.frame(5, 5, 1, 1, 1, 9));
        Check.equal("match in 5 x 5", five.match(0, 2, 2, 0), 34);
        Check.equal("margin in 5 x 5", five.matchMargin(0, 2, 2, 0), NOT_FOUND);
        GlacierCamera six = Check.loaded("size 6 5;set window 2;set range 1;" + Scenes.frame(6, 5, 1, 1, 1, 9));
        Check.equal("margin in 6 x 5", six.matchMargin(0, 2, 2, 0), 18);
    }

    // Frames that are not oriented, and wrong indices.

    @Says("NOT_FOUND if one of the frames is not oriented or there is no match")
    static void promise24_fromAndToAFrameThatIsNotOriented() {
        Refusal.refused("from 2", x -> x.match(2, 1, 1, 0), NOT_FOUND);
        Refusal.refused("to 2", x -> x.match(0, 1, 1, 2), NOT_FOUND);
        Refusal.refused("from 2 to 2", x -> x.match(2, 1, 1, 2), NOT_FOUND);
        Check.equal("from 0 to 1", Refusal.prepared().match(0, 1, 1, 1) >= 0, true);
        Check.equal("from 1 to 0", Refusal.prepared().match(1, 1, 1, 0) >= 0, true);
    }

    @Says("NOT_FOUND if one of the frames is not oriented or there is no match")
    static void promise25_fromAndToAFrameThatIsNotOriented() {
        Refusal.refused("from 2", x -> x.matchError(2, 1, 1, 0), NOT_FOUND);
        Refusal.refused("to 2", x -> x.matchError(0, 1, 1, 2), NOT_FOUND);
        Refusal.refused("from 2 to 2", x -> x.matchError(2, 1, 1, 2), NOT_FOUND);
    }

    @Says("NOT_FOUND if one of the frames is not oriented")
    static void promise26_fromAndToAFrameThatIsNotOriented() {
        Refusal.refused("from 2", x -> x.matchMargin(2, 1, 1, 0), NOT_FOUND);
        Refusal.refused("to 2", x -> x.matchMargin(0, 1, 1, 2), NOT_FOUND);
        Refusal.refused("from 2 to 2", x -> x.matchMargin(2, 1, 1, 2), NOT_FOUND);
    }

    @Says("NOT_FOUND if one of the frames is not oriented or there is no match")
    static void promise24_usableFrameWithoutAShiftIsNotOriented() {
        GlacierCamera x = loaded("control 0 0;" + dots(1, 5, 4, 9) + dots(2, 5, 4, 9));
        none("to it", x, 0, 5, 4, 1);
        none("from it", x, 1, 5, 4, 0);
        none("in it", x, 1, 5, 4, 1);
        Check.equal("in the reference frame", x.match(0, 5, 4, 0), 16 * 5 + 4);
        x.setSetting(GlacierCamera.WINDOW, 0);
        match("at radius 0", x, 5, 4, 5, 4, 0, 9);
    }

    private static final int[][] WRONG = {{3, 1, 1, 0}, {0, 1, 1, 3}, {0, 4, 1, 1}, {0, 1, 4, 1}, {2, 4, 1, 2}, {3, 9, 9, 3}};

    private static int[] wrongCall(int place, int wrong) {
        int[] call = {0, 1, 1, 1};
        call[place] = wrong;
        return call;
    }

    @Says("Throws IndexOutOfBoundsException if from or to is not a valid index of a frame, or x or y is not in the image")
    static void promise24_indexOneOutsideThrows() {
        for (int[] c : WRONG) {
            Refusal.outOfBounds("match", x -> x.match(c[0], c[1], c[2], c[3]));
        }
        for (int i = 0; i < 4; i++) {
            for (int wrong : NO_INDICES) {
                int[] c = wrongCall(i, wrong);
                Refusal.outOfBounds("parameter " + i + " is " + wrong, x -> x.match(c[0], c[1], c[2], c[3]));
            }
        }
        Check.outOfBounds("no frames", () -> new GlacierCamera().match(0, 0, 0, 0));
    }

    @Says("Throws IndexOutOfBoundsException if from or to is not a valid index of a frame, or x or y is not in the image")
    static void promise25_indexOneOutsideThrows() {
        for (int[] c : WRONG) {
            Refusal.outOfBounds("matchError", x -> x.matchError(c[0], c[1], c[2], c[3]));
        }
        for (int i = 0; i < 4; i++) {
            for (int wrong : NO_INDICES) {
                int[] c = wrongCall(i, wrong);
                Refusal.outOfBounds("parameter " + i + " is " + wrong, x -> x.matchError(c[0], c[1], c[2], c[3]));
            }
        }
        Check.outOfBounds("no frames", () -> new GlacierCamera().matchError(0, 0, 0, 0));
    }

    @Says("Throws IndexOutOfBoundsException if from or to is not a valid index of a frame, or x or y is not in the image")
    static void promise26_indexOneOutsideThrows() {
        for (int[] c : WRONG) {
            Refusal.outOfBounds("matchMargin", x -> x.matchMargin(c[0], c[1], c[2], c[3]));
        }
        for (int i = 0; i < 4; i++) {
            for (int wrong : NO_INDICES) {
                int[] c = wrongCall(i, wrong);
                Refusal.outOfBounds("parameter " + i + " is " + wrong, x -> x.matchMargin(c[0], c[1], c[2], c[3]));
            }
        }
        Check.outOfBounds("no frames", () -> new GlacierCamera().matchMargin(0, 0, 0, 0));
    }
}
