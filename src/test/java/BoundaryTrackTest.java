/** Promises 27 to 32: the boundary cases of tracks, loops and the least tolerance. */
public final class BoundaryTrackTest {
    private static final int NOT_FOUND = -1;
    private static final int[] NO_INDICES = {-1, Integer.MIN_VALUE, Integer.MAX_VALUE};

    public static void main(String[] args) {
        Cases.run(BoundaryTrackTest.class);
    }

    private static String dots(int day, int... dots) {
        return Scenes.frame(12, 10, day, dots);
    }

    private static String uniform(int day, int brightness) {
        return dots(day).replace("0000", ("" + brightness).repeat(4));
    }

    private static GlacierCamera loaded(String statements) {
        return Check.loaded("size 12 10;" + statements);
    }

    private static void tracked(String what, GlacierCamera x, int feature, int frame, int column, int row) {
        Check.equal(what + ": trackX in " + frame, x.trackX(feature, frame), column);
        Check.equal(what + ": trackY in " + frame, x.trackY(feature, frame), row);
    }

    private static void lost(String what, GlacierCamera x, int feature, int frame) {
        tracked(what, x, feature, frame, NOT_FOUND, NOT_FOUND);
    }

    /** A feature whose dot stands in the frames at the given columns of row 4; -1 for a frame without its dot. */
    private static GlacierCamera row(String statements, int... columns) {
        StringBuilder text = new StringBuilder("set window 0;").append(statements).append("feature ").append(columns[0]).append(" 4;");
        for (int i = 0; i < columns.length; i++) {
            text.append(columns[i] < 0 ? dots(i, 11, 9, 5) : dots(i, columns[i], 4, 9, 11, 9, 5));
        }
        return loaded(text.toString());
    }

    /** One image that is dark, and one that is as bright as told; the feature's mismatch is that of a whole window. */
    private static GlacierCamera twoUniform(int radius, int brightness) {
        return loaded("set contrast 0;set range 1;set window " + radius + ";feature 5 4;" + uniform(1, 0) + uniform(2, brightness));
    }

    /** Makes the mismatch of twoUniform's feature greater by one, whichever candidate is taken. */
    private static void oneMore(GlacierCamera x, int radius, int brightness) {
        int around = radius == 0 ? 1 : 0;
        for (int dy = -around; dy <= around; dy++) {
            for (int dx = -around; dx <= around; dx++) {
                x.setPixel(1, 5 + dx, 4 + dy, brightness + 1);
            }
        }
    }

    // Tracks.

    @Says("A feature has a pixel in the reference frame, where it is always tracked")
    static void promise27_alwaysTrackedInTheReferenceFrame() {
        GlacierCamera x = loaded("set window 2;set tolerance 0;feature 0 0;feature 11 0;feature 0 9;feature 11 9;feature 1 4;feature 5 4;"
            + dots(1, 5, 4, 9) + dots(2, 5, 4, 9));
        tracked("upper left", x, 0, 0, 0, 0);
        tracked("upper right", x, 1, 0, 11, 0);
        tracked("lower left", x, 2, 0, 0, 9);
        tracked("lower right", x, 3, 0, 11, 9);
        tracked("one column outside", x, 4, 0, 1, 4);
        tracked("the last of six", x, 5, 0, 5, 4);
        tracked("the last of six", x, 5, 1, 5, 4);
        lost("window outside", x, 0, 1);
        lost("window one column outside", x, 4, 1);
    }

    @Says("NOT_FOUND if the feature is not tracked in the frame")
    static void promise27_noUsableFrameAndFramesBeforeTheReferenceFrame() {
        GlacierCamera x = loaded("feature 5 4;" + dots(1) + dots(2, 5, 4, 9) + dots(3, 5, 4, 9) + dots(4));
        lost("before the reference frame", x, 0, 0);
        tracked("reference frame", x, 0, 1, 5, 4);
        tracked("behind it", x, 0, 2, 5, 4);
        lost("unusable", x, 0, 3);
        x.setPixel(1, 5, 4, 1);
        lost("no longer the reference frame", x, 0, 1);
        tracked("the new reference frame", x, 0, 2, 5, 4);
        x.setPixel(2, 5, 4, 1);
        for (int frame = 0; frame < 4; frame++) {
            lost("no usable frame", x, 0, frame);
        }
    }

    @Says("if its mismatch is at most TOLERANCE times the number of pixels of a window")
    static void promise27_mismatchOfExactlyTheToleranceAndOneMore() {
        for (int radius = 0; radius <= 2; radius++) {
            for (int tolerance = 0; tolerance <= 8; tolerance++) {
                String what = "radius " + radius + ", TOLERANCE " + tolerance;
                GlacierCamera x = twoUniform(radius, tolerance);
                x.setSetting(GlacierCamera.TOLERANCE, tolerance);
                tracked(what, x, 0, 1, 5, 4);
                oneMore(x, radius, tolerance);
                lost(what + " and one more", x, 0, 1);
                x.setSetting(GlacierCamera.TOLERANCE, tolerance + 1);
                Check.equal(what + " + 1", x.trackX(0, 1) >= 0, true);
            }
        }
    }

    @Says("TOLERANCE, the mismatch per pixel up to which a feature is tracked (0 to 9, initially 2)")
    static void promise28_leastAndGreatestTolerance() {
        GlacierCamera x = twoUniform(1, 9);
        x.setSetting(GlacierCamera.TOLERANCE, 9);
        tracked("greatest mismatch at TOLERANCE 9", x, 0, 1, 5, 4);
        x.setSetting(GlacierCamera.TOLERANCE, 8);
        lost("greatest mismatch at TOLERANCE 8", x, 0, 1);
        GlacierCamera equal = twoUniform(1, 0);
        equal.setSetting(GlacierCamera.TOLERANCE, 0);
        tracked("no mismatch at TOLERANCE 0", equal, 0, 1, 5, 4);
        equal.setPixel(1, 5, 4, 1);
        lost("mismatch 1 at TOLERANCE 0", equal, 0, 1);
        tracked("initial tolerance", twoUniform(1, 2), 0, 1, 5, 4);
        lost("initial tolerance", twoUniform(1, 3), 0, 1);
    }

    @Says("leads to a pixel whose column and row each differ by at most 1 from those of the feature in p")
    static void promise28_matchBackDiffersBy1AndBy2() {
        for (int dy = -2; dy <= 2; dy++) {
            for (int dx = -2; dx <= 2; dx++) {
                if (dx != 0 || dy != 0) {
                    // The feature of brightness 5 is found at a dot of 6, which itself is found back at the dot of 6.
                    int toX = dx == 2 ? 6 : dx == -2 ? 4 : 5;
                    int toY = dx == 2 || dx == -2 ? 4 : dy < 0 ? 3 : 5;
                    GlacierCamera x = loaded("set window 0;set range 4;feature 5 4;" + dots(1, 5, 4, 5, 5 + dx, 4 + dy, 6)
                        + dots(2, toX, toY, 6));
                    boolean near = dx >= -1 && dx <= 1 && dy >= -1 && dy <= 1;
                    tracked("back by " + dx + ", " + dy, x, 0, 1, near ? toX : NOT_FOUND, near ? toY : NOT_FOUND);
                }
            }
        }
    }

    @Says("if the match from its pixel in p to the frame exists")
    static void promise27_windowJustInsideAndOneOutside() {
        String frames = dots(1, 5, 4, 9) + dots(2, 5, 4, 9);
        int[][] inside = {{1, 4}, {10, 4}, {5, 1}, {5, 8}};
        int[][] outside = {{0, 4}, {11, 4}, {5, 0}, {5, 9}};
        for (int i = 0; i < 4; i++) {
            GlacierCamera x = loaded("feature " + inside[i][0] + " " + inside[i][1] + ";feature " + outside[i][0] + " " + outside[i][1]
                + ";" + frames);
            tracked("inside", x, 0, 1, inside[i][0], inside[i][1]);
            lost("outside", x, 1, 1);
            Check.equal("inside: lostCount", x.lostCount(0), 0);
            Check.equal("outside: lostCount", x.lostCount(1), 1);
        }
    }

    @Says("if the match from its pixel in p to the frame exists")
    static void promise27_lastCandidateAndNone() {
        GlacierCamera x = Check.loaded("size 8 6;set window 0;set range 1;set shift 3;control 4 3;feature 5 1;feature 6 1;"
            + Scenes.frame(8, 6, 1, 4, 3, 9) + Scenes.frame(8, 6, 2, 7, 3, 9));
        tracked("expected one column outside", x, 0, 1, 7, 1);
        lost("expected two columns outside", x, 1, 1);
    }

    @Says("let p be the latest frame before it in which the feature is tracked")
    static void promise27_latestFrameInWhichItIsTracked() {
        GlacierCamera x = row("", 2, 4, 6);
        tracked("two columns a frame", x, 0, 1, 4, 4);
        tracked("two columns a frame", x, 0, 2, 6, 4);
        x.setPixel(1, 4, 4, 0);
        lost("without the dot in between", x, 0, 1);
        lost("four columns from the latest", x, 0, 2);
        x.setSetting(GlacierCamera.RANGE, 4);
        lost("four columns at RANGE 4", x, 0, 1);
        tracked("four columns at RANGE 4", x, 0, 2, 6, 4);
        GlacierCamera y = row("", 2, -1, -1, -1, -1, 4);
        for (int frame = 1; frame < 5; frame++) {
            lost("without a dot", y, 0, frame);
        }
        tracked("from the reference frame to the last of six", y, 0, 5, 4, 4);
    }

    @Says("The further oriented frames are visited in ascending order")
    static void promise28_framesThatAreNotOrientedAreNotVisited() {
        GlacierCamera x = row("", 2, 4, 6);
        x.setPixel(1, 11, 9, 0);
        x.setPixel(1, 4, 4, 1);
        Check.equal("unusable", x.isUsable(1), false);
        lost("not oriented", x, 0, 1);
        lost("too far from the reference frame", x, 0, 2);
        Check.equal("lost in one oriented frame", x.lostCount(0), 1);
    }

    @Says("Throws IndexOutOfBoundsException if feature or frame is not a valid index")
    static void promise27_indexOneOutsideThrows() {
        Refusal.refused("the last of both", x -> x.trackX(1, 2), NOT_FOUND);
        Refusal.outOfBounds("trackX(2, 0)", x -> x.trackX(2, 0));
        Refusal.outOfBounds("trackX(0, 3)", x -> x.trackX(0, 3));
        for (int wrong : NO_INDICES) {
            Refusal.outOfBounds("trackX(" + wrong + ", 0)", x -> x.trackX(wrong, 0));
            Refusal.outOfBounds("trackX(0, " + wrong + ")", x -> x.trackX(0, wrong));
        }
        Check.outOfBounds("no features", () -> loaded(dots(1)).trackX(0, 0));
        Check.outOfBounds("no frames", () -> loaded("feature 1 1;").trackX(0, 0));
    }

    @Says("Throws IndexOutOfBoundsException if feature or frame is not a valid index")
    static void promise28_indexOneOutsideThrows() {
        Refusal.refused("the last of both", x -> x.trackY(1, 2), NOT_FOUND);
        Refusal.outOfBounds("trackY(2, 0)", x -> x.trackY(2, 0));
        Refusal.outOfBounds("trackY(0, 3)", x -> x.trackY(0, 3));
        for (int wrong : NO_INDICES) {
            Refusal.outOfBounds("trackY(" + wrong + ", 0)", x -> x.trackY(wrong, 0));
            Refusal.outOfBounds("trackY(0, " + wrong + ")", x -> x.trackY(0, wrong));
        }
        Check.outOfBounds("no features", () -> loaded(dots(1)).trackY(0, 0));
        Check.outOfBounds("no frames", () -> loaded("feature 1 1;").trackY(0, 0));
    }

    @Says({"NOT_FOUND if the feature is not tracked in the frame", "Otherwise it is lost in the frame"})
    static void promise28_rowOfALostFeature() {
        GlacierCamera x = row("", 2, -1, 2);
        Check.equal("lost", x.trackY(0, 1), NOT_FOUND);
        Check.equal("found again", x.trackY(0, 2), 4);
        Check.equal("row 0", loaded("feature 3 0;" + dots(1, 5, 4, 9)).trackY(0, 0), 0);
    }

    // Lost features.

    @Says("Returns the number of oriented frames in which a feature is lost")
    static void promise29_lostInNoneAndInAllFurtherFrames() {
        Check.equal("none of six", row("", 2, 2, 2, 2, 2, 2).lostCount(0), 0);
        Check.equal("five of six", row("", 2, -1, -1, -1, -1, -1).lostCount(0), 5);
        Check.equal("the last of six", row("", 2, 2, 2, 2, 2, -1).lostCount(0), 1);
        Check.equal("the second of six", row("", 2, -1, 2, 2, 2, 2).lostCount(0), 1);
        Check.equal("the reference frame alone", row("", 2).lostCount(0), 0);
    }

    @Says("Returns the number of oriented frames in which a feature is lost")
    static void promise29_framesThatAreNotOrientedDoNotCount() {
        GlacierCamera x = loaded("feature 5 4;" + dots(1) + dots(2, 5, 4, 9) + dots(3) + dots(4, 8, 4, 9));
        Check.equal("one of two oriented ones", x.lostCount(0), 1);
        x.setPixel(3, 8, 4, 1);
        Check.equal("none of one oriented one", x.lostCount(0), 0);
        x.setPixel(1, 5, 4, 1);
        Check.equal("no usable frame", x.lostCount(0), 0);
        Check.equal("no frame", loaded("feature 5 4;").lostCount(0), 0);
    }

    @Says("Throws IndexOutOfBoundsException if feature is not a valid index")
    static void promise29_featureOneOutsideThrows() {
        Refusal.outOfBounds("lostCount(2) of two", x -> x.lostCount(2));
        for (int wrong : NO_INDICES) {
            Refusal.outOfBounds("lostCount(" + wrong + ")", x -> x.lostCount(wrong));
        }
        Check.outOfBounds("no features", () -> new GlacierCamera().lostCount(0));
        GlacierCamera six = loaded("feature 1 1;".repeat(6));
        Check.equal("the last of six", six.lostCount(5), 0);
        Check.outOfBounds("beyond six", () -> six.lostCount(6));
    }

    // Loops.

    @Says("Returns the absolute difference of the columns plus that of the rows, of the first and the last pixel")
    static void promise30_loopThatEndsWhereItBeganAndOnePixelBesides() {
        // The dots of frames b and c lead on; back in the reference frame the nearest of the equal dots is another one.
        GlacierCamera x = loaded("set window 0;set range 1;feature 5 4;" + dots(1, 5, 4, 9) + dots(2, 6, 5, 9) + dots(3, 6, 5, 9));
        Check.equal("the same pixel", x.loopError(0, 1, 2), 0);
        x.setPixel(0, 6, 5, 9);
        Check.equal("one column and one row", x.loopError(0, 1, 2), 2);
        x.setPixel(0, 6, 5, 0);
        x.setPixel(0, 6, 4, 9);
        Check.equal("one column", x.loopError(0, 1, 2), 1);
        GlacierCamera y = loaded("set window 0;set range 4;feature 6 5;" + dots(1, 6, 5, 5, 2, 1, 6) + dots(2, 5, 4, 6));
        Check.equal("four columns and four rows less", y.loopError(0, 1, 1), 8);
        GlacierCamera z = loaded("set window 0;set range 4;feature 6 5;" + dots(1, 6, 5, 5, 10, 9, 6) + dots(2, 6, 6, 6));
        Check.equal("four columns and four rows more", z.loopError(0, 1, 1), 8);
    }

    @Says("Follows a feature around a loop by matches")
    static void promise30_loopsOverTheReferenceFrame() {
        GlacierCamera x = row("", 2, 3, 5);
        Check.equal("0, 0", x.loopError(0, 0, 0), 0);
        Check.equal("0, 1", x.loopError(0, 0, 1), 0);
        Check.equal("1, 0", x.loopError(0, 1, 0), 0);
        Check.equal("1, 1", x.loopError(0, 1, 1), 0);
        Check.equal("2, 1: from a dark pixel back to the nearest dark one", x.loopError(0, 2, 1), 1);
        GlacierCamera late = loaded("set window 0;feature 5 4;" + dots(1) + dots(2, 5, 4, 9) + dots(3, 6, 4, 9));
        Check.equal("a reference frame that is not the first frame", late.loopError(0, 2, 1), 0);
    }

    @Says("NOT_FOUND if one of the frames is not oriented or a match does not exist")
    static void promise30_frameThatIsNotOriented() {
        Refusal.refused("b", x -> x.loopError(0, 2, 1), NOT_FOUND);
        Refusal.refused("c", x -> x.loopError(0, 1, 2), NOT_FOUND);
        Refusal.refused("both", x -> x.loopError(0, 2, 2), NOT_FOUND);
        Check.equal("none", Refusal.prepared().loopError(0, 1, 1) >= 0, true);
        GlacierCamera x = loaded("feature 5 4;" + dots(1) + dots(2));
        Check.equal("no reference frame", x.loopError(0, 0, 1), NOT_FOUND);
    }

    @Says("NOT_FOUND if one of the frames is not oriented or a match does not exist")
    static void promise30_firstMatchDoesNotExist() {
        GlacierCamera x = loaded("feature 1 4;feature 0 4;" + dots(1, 5, 4, 9) + dots(2, 5, 4, 9));
        Check.equal("window inside", x.loopError(0, 1, 1), 0);
        Check.equal("window outside", x.loopError(1, 1, 1), NOT_FOUND);
        Check.equal("window outside, reference frame alone", x.loopError(1, 0, 0), NOT_FOUND);
    }

    /** The camera shifts by (sx, 0) in frame 1 and by (tx, 0) in frame 2; row 1 holds a dot of 5 at the given columns. */
    private static GlacierCamera shifting(int sx, int tx, int first, int second, int third) {
        GlacierCamera x = Check.loaded("size 8 6;set window 0;set range 1;set shift 3;control 4 4;feature " + first + " 1;"
            + Scenes.frame(8, 6, 1, 4, 4, 9, first, 1, 5) + Scenes.frame(8, 6, 2, 4 + sx, 4, 9, second, 1, 5)
            + Scenes.frame(8, 6, 3, 4 + tx, 4, 9, third, 1, 5));
        Check.equal("shifts", 10 * x.shiftX(1) + x.shiftX(2), 10 * sx + tx);
        return x;
    }

    @Says("NOT_FOUND if one of the frames is not oriented or a match does not exist")
    static void promise30_secondMatchDoesNotExist() {
        Check.equal("expected one column outside", shifting(0, -3, 2, 2, 0).loopError(0, 1, 2), 0);
        Check.equal("expected two columns outside", shifting(0, -3, 1, 1, 0).loopError(0, 1, 2), NOT_FOUND);
    }

    @Says("NOT_FOUND if one of the frames is not oriented or a match does not exist")
    static void promise30_thirdMatchDoesNotExist() {
        Check.equal("expected one column outside", shifting(3, 3, 0, 2, 2).loopError(0, 1, 2), 0);
        Check.equal("expected two columns outside", shifting(3, 3, 0, 2, 1).loopError(0, 1, 2), NOT_FOUND);
    }

    @Says("Throws IndexOutOfBoundsException if feature, b or c is not a valid index")
    static void promise30_indexOneOutsideThrows() {
        Refusal.outOfBounds("feature 2", x -> x.loopError(2, 0, 0));
        Refusal.outOfBounds("b 3", x -> x.loopError(0, 3, 0));
        Refusal.outOfBounds("c 3", x -> x.loopError(0, 0, 3));
        Refusal.outOfBounds("c 3 behind a frame that is not oriented", x -> x.loopError(0, 2, 3));
        for (int wrong : NO_INDICES) {
            Refusal.outOfBounds("feature " + wrong, x -> x.loopError(wrong, 0, 0));
            Refusal.outOfBounds("b " + wrong, x -> x.loopError(0, wrong, 0));
            Refusal.outOfBounds("c " + wrong, x -> x.loopError(0, 0, wrong));
        }
        Check.outOfBounds("no frames", () -> loaded("feature 1 1;").loopError(0, 0, 0));
        Check.outOfBounds("no features", () -> loaded(dots(1)).loopError(0, 0, 0));
    }

    @Says("Returns the number of pairs of oriented frames b and c, both after the reference frame and b before c")
    static void promise31_pairsOfOneToSixFrames() {
        int[] pairs = {0, 0, 1, 3, 6, 10};
        for (int count = 1; count <= 6; count++) {
            int[] columns = new int[count];
            java.util.Arrays.fill(columns, 5);
            Check.equal("pairs of " + count + " frames", row("", columns).closedLoops(0), pairs[count - 1]);
        }
        Check.equal("no frame", loaded("feature 1 1;").closedLoops(0), 0);
        Check.equal("no usable frame", loaded("feature 1 1;" + dots(1) + dots(2) + dots(3)).closedLoops(0), 0);
    }

    @Says("both after the reference frame and b before c, for which loopError returns 0")
    static void promise31_framesBeforeTheReferenceFrameAndUnusableOnes() {
        GlacierCamera x = loaded("feature 5 4;" + dots(1) + dots(2, 5, 4, 9) + dots(3, 5, 4, 9) + dots(4) + dots(5, 5, 4, 9)
            + dots(6, 5, 4, 9));
        Check.equal("three oriented ones after it", x.closedLoops(0), 3);
        x.setPixel(5, 5, 4, 1);
        Check.equal("two oriented ones after it", x.closedLoops(0), 1);
        x.setPixel(4, 5, 4, 1);
        Check.equal("one oriented one after it", x.closedLoops(0), 0);
    }

    @Says("for which loopError returns 0")
    static void promise31_loopsThatDoNotClose() {
        GlacierCamera x = loaded("set window 0;set range 1;feature 5 4;" + dots(1, 5, 4, 9) + dots(2, 6, 5, 9) + dots(3, 6, 5, 9));
        Check.equal("closed", x.closedLoops(0), 1);
        x.setPixel(0, 6, 4, 9);
        Check.equal("error 1", x.loopError(0, 1, 2), 1);
        Check.equal("not closed", x.closedLoops(0), 0);
        GlacierCamera none = loaded("feature 0 4;" + dots(1, 5, 4, 9) + dots(2, 5, 4, 9) + dots(3, 5, 4, 9));
        Check.equal("matches that do not exist", none.closedLoops(0), 0);
    }

    @Says("Throws IndexOutOfBoundsException if feature is not a valid index")
    static void promise31_featureOneOutsideThrows() {
        Refusal.outOfBounds("closedLoops(2) of two", x -> x.closedLoops(2));
        for (int wrong : NO_INDICES) {
            Refusal.outOfBounds("closedLoops(" + wrong + ")", x -> x.closedLoops(wrong));
        }
        Check.outOfBounds("no features", () -> new GlacierCamera().closedLoops(0));
    }

    // The least tolerance.

    @Says({"Returns the least TOLERANCE with which a feature would be tracked in all oriented frames", "Returns 0 to 9"})
    static void promise32_leastToleranceFrom0To9() {
        for (int radius = 0; radius <= 2; radius++) {
            for (int brightness = 0; brightness <= 9; brightness++) {
                GlacierCamera x = twoUniform(radius, brightness);
                Check.equal("radius " + radius + ", brightness " + brightness, x.leastTolerance(0), brightness);
                if (brightness < 9) {
                    oneMore(x, radius, brightness);
                    Check.equal("radius " + radius + ", mismatch one more", x.leastTolerance(0), brightness + 1);
                }
            }
        }
    }

    @Says("Returns the least TOLERANCE with which a feature would be tracked in all oriented frames")
    static void promise32_lastPixelBeforeTheNextTolerance() {
        GlacierCamera x = loaded("set contrast 0;set range 1;set window 1;feature 5 4;" + uniform(1, 0) + uniform(2, 3));
        x.setPixel(1, 5, 4, 2);
        Check.equal("26 on nine pixels", x.leastTolerance(0), 3);
        x.setPixel(1, 5, 4, 0);
        Check.equal("24 on nine pixels", x.leastTolerance(0), 3);
        x.setSetting(GlacierCamera.TOLERANCE, 3);
        Check.equal("tracked with it", x.lostCount(0), 0);
        x.setSetting(GlacierCamera.TOLERANCE, 2);
        Check.equal("lost with one less", x.lostCount(0), 1);
        Check.equal("whatever is set", x.leastTolerance(0), 3);
    }

    @Says("with which a feature would be tracked in all oriented frames")
    static void promise32_worstOfSeveralFrames() {
        String start = "set contrast 0;feature 5 4;" + uniform(1, 0);
        Check.equal("the second one", loaded(start + uniform(2, 4) + uniform(3, 5)).leastTolerance(0), 4);
        Check.equal("the third one", loaded(start + uniform(2, 4) + uniform(3, 9)).leastTolerance(0), 5);
        Check.equal("alike", loaded(start + uniform(2, 4) + uniform(3, 0)).leastTolerance(0), 4);
    }

    @Says("Returns the least TOLERANCE with which a feature would be tracked in all oriented frames")
    static void promise32_eachFeatureForItself() {
        GlacierCamera x = loaded("set window 0;feature 2 2;feature 6 2;" + dots(1, 2, 2, 9, 6, 2, 5) + dots(2, 2, 2, 4, 6, 2, 6));
        for (int i = 0; i < 2; i++) {
            Check.equal("from 9 to 4", x.leastTolerance(0), 5);
            Check.equal("from 5 to 6", x.leastTolerance(1), 1);
        }
        x.removeFrame(1);
        Check.equal("the reference frame alone", x.leastTolerance(0), 0);
        Check.equal("the reference frame alone", x.leastTolerance(1), 0);
    }

    @Says("NOT_FOUND if there is none, or no frame is usable")
    static void promise32_noToleranceAtAll() {
        GlacierCamera x = loaded("feature 1 4;feature 0 4;" + dots(1, 5, 4, 9) + dots(2, 5, 4, 9));
        Check.equal("window inside", x.leastTolerance(0), 0);
        Check.equal("window outside", x.leastTolerance(1), NOT_FOUND);
        x.removeFrame(1);
        Check.equal("window outside, reference frame alone", x.leastTolerance(1), 0);
        String start = "set window 0;set range 4;feature 5 4;";
        Check.equal("back by 1", loaded(start + dots(1, 5, 4, 5, 4, 4, 6) + dots(2, 6, 4, 6)).leastTolerance(0), 1);
        Check.equal("back by 2", loaded(start + dots(1, 5, 4, 5, 3, 4, 6) + dots(2, 6, 4, 6)).leastTolerance(0), NOT_FOUND);
    }

    @Says("NOT_FOUND if there is none, or no frame is usable")
    static void promise32_noUsableFrame() {
        Check.equal("no frame", loaded("feature 5 4;").leastTolerance(0), NOT_FOUND);
        GlacierCamera x = loaded("feature 5 4;" + dots(1, 5, 4, 1));
        Check.equal("no usable frame", x.leastTolerance(0), NOT_FOUND);
        x.setPixel(0, 5, 4, 2);
        Check.equal("one usable frame", x.leastTolerance(0), 0);
    }

    @Says("Throws IndexOutOfBoundsException if feature is not a valid index")
    static void promise32_featureOneOutsideThrows() {
        Refusal.outOfBounds("leastTolerance(2) of two", x -> x.leastTolerance(2));
        for (int wrong : NO_INDICES) {
            Refusal.outOfBounds("leastTolerance(" + wrong + ")", x -> x.leastTolerance(wrong));
        }
        Check.outOfBounds("no features", () -> new GlacierCamera().leastTolerance(0));
    }
}
