/** Promises 27 to 32: tracks with their check backwards, loops and the least tolerance. */
public final class TrackTest {
    public static void main(String[] args) {
        lostAndFoundAgain();
        tolerance();
        backwards();
        referenceFrame();
        shiftedCamera();
        loops();
        leastTolerance();
        wrongIndices();
        Check.finish();
    }

    private static String dots(int day, int... dots) {
        return Scenes.frame(8, 4, day, dots);
    }

    /** Where a feature is in the frames: 16 times the column plus the row, or -1. */
    private static void track(String what, GlacierCamera x, int feature, int... due) {
        int lost = 0;
        for (int frame = 0; frame < due.length; frame++) {
            int column = due[frame] < 0 ? -1 : due[frame] / 16;
            int row = due[frame] < 0 ? -1 : due[frame] % 16;
            Check.equal(what + ": trackX in " + frame, x.trackX(feature, frame), column);
            Check.equal(what + ": trackY in " + frame, x.trackY(feature, frame), row);
            lost += due[frame] < 0 && x.isOriented(frame) ? 1 : 0;
        }
        Check.equal(what + ": lostCount", x.lostCount(feature), lost);
    }

    private static GlacierCamera fourFrames() {
        return Check.loaded("size 8 4;set window 0;feature 1 1;" + dots(0, 1, 1, 9) + dots(3, 2, 1, 7)
            + dots(5, 7, 3, 3) + dots(9, 4, 2, 7));
    }

    private static void lostAndFoundAgain() {
        GlacierCamera x = fourFrames();
        track("found from the latest frame where it is tracked", x, 0, 17, 33, -1, 66);
        x.setSetting(GlacierCamera.TOLERANCE, 1);
        track("lost in the second frame too", x, 0, 17, -1, -1, -1);
        x.setSetting(GlacierCamera.RANGE, 3);
        Check.equal("too great a mismatch", x.lostCount(0), 3);
        x.setSetting(GlacierCamera.TOLERANCE, 2);
        x.setPixel(1, 2, 1, 0);
        x.setPixel(1, 0, 0, 5);
        track("found from the reference frame", x, 0, 17, -1, -1, 66);
        x.removeFrame(3);
        track("nowhere", x, 0, 17, -1, -1);
    }

    private static void tolerance() {
        // Nine pixels: a mismatch of 9 passes at TOLERANCE 1, one of 10 does not.
        GlacierCamera x = Check.loaded("size 8 4;set tolerance 1;feature 3 2;" + dots(0, 3, 2, 9, 4, 2, 9)
            + dots(1, 3, 2, 4, 4, 2, 5));
        track("mismatch 9", x, 0, 50, 50);
        x.setPixel(1, 2, 1, 1);
        track("mismatch 10", x, 0, 50, -1);
        x.setSetting(GlacierCamera.TOLERANCE, 2);
        track("mismatch 10 at TOLERANCE 2", x, 0, 50, 50);
        x.undo();
        x.undo();
        x.setSetting(GlacierCamera.TOLERANCE, 0);
        track("at TOLERANCE 0", x, 0, 50, -1);
    }

    private static void backwards() {
        String start = "size 8 4;set window 0;feature 1 1;";
        GlacierCamera near = Check.loaded(start + dots(0, 1, 1, 5, 2, 1, 6) + dots(1, 2, 1, 6));
        track("back to a neighbour", near, 0, 17, 33);
        GlacierCamera diagonal = Check.loaded(start + dots(0, 1, 1, 5, 2, 2, 6) + dots(1, 2, 1, 6));
        track("back to a diagonal neighbour", diagonal, 0, 17, 33);
        GlacierCamera far = Check.loaded(start + dots(0, 1, 1, 5, 3, 1, 6) + dots(1, 2, 1, 6));
        track("back to a column too far", far, 0, 17, -1);
        GlacierCamera low = Check.loaded(start + dots(0, 1, 1, 5, 1, 3, 6) + dots(1, 1, 2, 6));
        track("back to a row too far", low, 0, 17, -1);
    }

    private static void referenceFrame() {
        GlacierCamera x = Check.loaded("size 8 4;set window 0;feature 1 1;feature 0 3;" + dots(0) + dots(2, 1, 1, 9)
            + dots(4, 2, 1, 9) + dots(6));
        track("unusable frames are not visited", x, 0, -1, 17, 33, -1);
        Check.equal("and do not count as lost", x.lostCount(0), 0);
        x.setSetting(GlacierCamera.WINDOW, 1);
        track("always tracked in the reference frame", x, 1, -1, 3, -1, -1);
        Check.equal("lost without a window", x.lostCount(1), 1);
        x.setSetting(GlacierCamera.CONTRAST, 9);
        x.setPixel(1, 1, 1, 8);
        track("a later reference frame", x, 0, -1, -1, 17, -1);
        x.setPixel(2, 2, 1, 8);
        track("no reference frame", x, 0, -1, -1, -1, -1);
        Check.equal("lostCount without it", x.lostCount(0), 0);
        Check.equal("closedLoops without it", x.closedLoops(0), 0);
        Check.equal("loopError without it", x.loopError(0, 1, 2), -1);
        Check.equal("leastTolerance without it", x.leastTolerance(0), -1);
        Check.equal("segmentCount without it", x.segmentCount(0), 0);
    }

    private static void shiftedCamera() {
        // A frame that is not oriented is not visited: the control point's window does not fit any more.
        GlacierCamera x = Check.loaded("size 8 4;set window 0;control 0 0;feature 3 1;" + dots(0, 0, 0, 9, 3, 1, 5)
            + dots(2, 1, 1, 9, 5, 2, 5));
        Check.equal("shift", 10 * x.shiftX(1) + x.shiftY(1), 11);
        track("with the shift", x, 0, 49, 82);
        x.setSetting(GlacierCamera.WINDOW, 1);
        Check.equal("not oriented", x.isOriented(1), false);
        track("not visited", x, 0, 49, -1);
        Check.equal("not lost", x.lostCount(0), 0);
    }

    private static void loops() {
        GlacierCamera x = fourFrames();
        Check.equal("0-1-3-0", x.loopError(0, 1, 3), 4);
        Check.equal("0-0-0-0", x.loopError(0, 0, 0), 0);
        Check.equal("0-1-1-0", x.loopError(0, 1, 1), 0);
        Check.equal("0-0-1-0", x.loopError(0, 0, 1), 0);
        x.setSetting(GlacierCamera.RANGE, 3);
        Check.equal("0-1-3-0 with RANGE 3", x.loopError(0, 1, 3), 0);
        x.setSetting(GlacierCamera.CONTRAST, 4);
        Check.equal("by an unusable frame", x.loopError(0, 2, 3), -1);
        Check.equal("to an unusable frame", x.loopError(0, 1, 2), -1);
        Check.equal("one pair of three frames", x.closedLoops(0), 1);
        x.setSetting(GlacierCamera.CONTRAST, 2);
        int closed = 0;
        for (int b = 1; b < 4; b++) {
            for (int c = b + 1; c < 4; c++) {
                closed += x.loopError(0, b, c) == 0 ? 1 : 0;
            }
        }
        Check.equal("pairs with error 0", x.closedLoops(0), closed);
        GlacierCamera y = Check.loaded("size 8 4;feature 2 1;feature 0 0;" + dots(0, 2, 1, 9) + dots(1, 3, 1, 9)
            + dots(2, 2, 2, 9) + dots(3, 3, 2, 9) + dots(4, 3, 1, 9) + dots(5, 2, 1, 9));
        Check.equal("all ten pairs", y.closedLoops(0), 10);
        Check.equal("window outside", y.loopError(1, 1, 2), -1);
        Check.equal("no pairs", y.closedLoops(1), 0);
    }

    private static void leastTolerance() {
        GlacierCamera x = fourFrames();
        Check.equal("the lost frame decides", x.leastTolerance(0), 7);
        x.setSetting(GlacierCamera.TOLERANCE, 7);
        Check.equal("tracked with it", x.lostCount(0), 0);
        x.setSetting(GlacierCamera.TOLERANCE, 6);
        Check.equal("not with less", x.lostCount(0) > 0, true);
        Check.equal("whatever is set", x.leastTolerance(0), 7);
        GlacierCamera y = Check.loaded("size 8 4;feature 3 2;feature 0 0;" + dots(0, 3, 2, 9, 4, 2, 9)
            + dots(1, 3, 2, 4, 4, 2, 5));
        Check.equal("9 on nine pixels", y.leastTolerance(0), 1);
        Check.equal("no match", y.leastTolerance(1), -1);
        y.setPixel(1, 2, 1, 1);
        Check.equal("10 on nine pixels", y.leastTolerance(0), 2);
        y.removeFrame(1);
        Check.equal("the reference frame alone", y.leastTolerance(0), 0);
        Check.equal("even without a window", y.leastTolerance(1), 0);
        GlacierCamera z = Check.loaded("size 8 4;set window 0;set contrast 0;set range 4;feature 1 1;"
            + Scenes.frame(8, 4, 0) + Scenes.frame(8, 4, 1).replace("00000000", "99999999"));
        Check.equal("all pixels different by 9", z.leastTolerance(0), 9);
    }

    private static void wrongIndices() {
        GlacierCamera x = fourFrames();
        for (int wrong : new int[] {-1, 1, Integer.MIN_VALUE, Integer.MAX_VALUE}) {
            Check.outOfBounds("trackX " + wrong, () -> x.trackX(wrong, 0));
            Check.outOfBounds("trackY " + wrong, () -> x.trackY(wrong, 0));
            Check.outOfBounds("lostCount " + wrong, () -> x.lostCount(wrong));
            Check.outOfBounds("loopError " + wrong, () -> x.loopError(wrong, 0, 0));
            Check.outOfBounds("closedLoops " + wrong, () -> x.closedLoops(wrong));
            Check.outOfBounds("leastTolerance " + wrong, () -> x.leastTolerance(wrong));
        }
        for (int wrong : new int[] {-1, 4, Integer.MAX_VALUE}) {
            Check.outOfBounds("trackX in " + wrong, () -> x.trackX(0, wrong));
            Check.outOfBounds("trackY in " + wrong, () -> x.trackY(0, wrong));
            Check.outOfBounds("loopError by " + wrong, () -> x.loopError(0, wrong, 0));
            Check.outOfBounds("loopError over " + wrong, () -> x.loopError(0, 0, wrong));
        }
    }
}
