/** Promises 20 to 23: which frames are oriented, and by which shift. */
public final class OrientationTest {
    public static void main(String[] args) {
        plainShift();
        ties();
        sumOverControls();
        windows();
        withoutControls();
        wrongFrames();
        followsChanges();
        Check.finish();
    }

    private static String dots(int day, int... dots) {
        return Scenes.frame(8, 6, day, dots);
    }

    private static void shift(String what, GlacierCamera x, int frame, int sx, int sy, int error) {
        Check.equal(what + ": isOriented", x.isOriented(frame), true);
        Check.equal(what + ": shiftX", x.shiftX(frame), sx);
        Check.equal(what + ": shiftY", x.shiftY(frame), sy);
        Check.equal(what + ": shiftError", x.shiftError(frame), error);
    }

    private static void plainShift() {
        GlacierCamera x = Check.loaded("size 8 6;control 3 2;" + dots(1, 3, 2, 9) + dots(2, 4, 1, 9) + dots(3, 5, 2, 9));
        shift("reference", x, 0, 0, 0, 0);
        shift("right and up", x, 1, 1, -1, 0);
        // The dot is 2 to the right: beyond SHIFT 1, so windows of radius 1 that hold it have it at another place.
        Check.equal("beyond SHIFT", x.shiftError(2) > 0, true);
        x.setSetting(GlacierCamera.SHIFT, 2);
        shift("at SHIFT 2", x, 2, 2, 0, 0);
        x.setSetting(GlacierCamera.SHIFT, 0);
        shift("at SHIFT 0", x, 1, 0, 0, 18);
    }

    private static void ties() {
        String start = "size 8 6;set window 0;set shift 3;control 3 2;" + dots(1, 3, 2, 5);
        shift("least size before least row", Check.loaded(start + dots(2, 2, 1, 5, 4, 2, 5)), 1, 1, 0, 0);
        shift("least row first", Check.loaded(start + dots(2, 2, 2, 5, 3, 1, 5, 4, 2, 5, 3, 3, 5)), 1, 0, -1, 0);
        shift("then least column", Check.loaded(start + dots(2, 2, 2, 5, 4, 2, 5, 3, 3, 5)), 1, -1, 0, 0);
        shift("row before column", Check.loaded(start + dots(2, 2, 4, 5, 5, 1, 5)), 1, 2, -1, 0);
        shift("same row and size", Check.loaded(start + dots(2, 1, 3, 5, 5, 3, 5)), 1, -2, 1, 0);
        shift("the exact one is beyond SHIFT", Check.loaded(start + dots(2, 3, 2, 4, 7, 5, 5)), 1, 0, 0, 1);
        shift("far but exact", Check.loaded(start + dots(2, 3, 2, 4, 0, 1, 5)), 1, -3, -1, 0);
        shift("all alike", Check.loaded(start + dots(2, 7, 5, 5)), 1, 0, 0, 5);
    }

    private static void sumOverControls() {
        GlacierCamera x = Check.loaded("size 8 6;set window 0;control 2 2;control 5 2;"
            + dots(1, 2, 2, 9, 5, 2, 6) + dots(2, 3, 2, 9, 5, 2, 6));
        // Unmoved: 9 at the first point. To the right: 6 at the second one.
        shift("least sum", x, 1, 1, 0, 6);
        GlacierCamera y = Check.loaded("size 8 6;set window 0;control 2 2;control 2 2;"
            + dots(1, 2, 2, 9) + dots(2, 2, 2, 6));
        shift("a point twice counts twice", y, 1, 0, 0, 6);
    }

    private static void windows() {
        String frames = dots(1, 1, 1, 9) + dots(2, 0, 0, 9, 3, 3, 3);
        GlacierCamera x = Check.loaded("size 8 6;control 1 1;" + frames);
        // Up and left would fit best, but the window is not inside there; unmoved, both dots count.
        shift("only shifts whose windows are inside", x, 1, 1, 0, 9);
        x.setSetting(GlacierCamera.WINDOW, 2);
        Check.equal("window of the control point outside", x.isOriented(1), false);
        Check.equal("its error", x.shiftError(1), -1);
        Check.illegalState("its shiftX", () -> x.shiftX(1));
        Check.illegalState("its shiftY", () -> x.shiftY(1));
        shift("the reference frame all the same", x, 0, 0, 0, 0);
        x.setSetting(GlacierCamera.WINDOW, 0);
        shift("at radius 0", x, 1, -1, -1, 0);
        GlacierCamera corner = Check.loaded("size 8 6;set window 0;control 0 0;control 7 5;" + frames);
        shift("points in two corners leave one shift", corner, 1, 0, 0, 9);
    }

    private static void withoutControls() {
        GlacierCamera x = Check.loaded("size 8 6;" + dots(1, 3, 2, 9) + dots(2, 4, 2, 9) + dots(3));
        shift("no control points", x, 1, 0, 0, 0);
        Check.equal("unusable frame", x.isOriented(2), false);
        Check.equal("its error", x.shiftError(2), -1);
        Check.illegalState("its shiftX", () -> x.shiftX(2));
        Check.illegalState("its shiftY", () -> x.shiftY(2));
    }

    private static void wrongFrames() {
        GlacierCamera x = Check.loaded("size 8 6;" + dots(1, 3, 2, 9) + dots(2));
        for (int frame : new int[] {-1, 2, Integer.MIN_VALUE, Integer.MAX_VALUE}) {
            Check.outOfBounds("isOriented " + frame, () -> x.isOriented(frame));
            Check.outOfBounds("shiftX " + frame, () -> x.shiftX(frame));
            Check.outOfBounds("shiftY " + frame, () -> x.shiftY(frame));
            Check.outOfBounds("shiftError " + frame, () -> x.shiftError(frame));
        }
        x.setSetting(GlacierCamera.CONTRAST, 9);
        x.setPixel(0, 3, 2, 8);
        Check.equal("no usable frame", x.isOriented(0), false);
        Check.illegalState("shift without reference frame", () -> x.shiftX(0));
    }

    private static void followsChanges() {
        GlacierCamera x = Check.loaded("size 8 6;control 3 2;" + dots(1, 3, 2, 9) + dots(2, 4, 2, 9) + dots(3, 4, 2, 9));
        shift("before", x, 2, 1, 0, 0);
        x.removeFrame(0);
        shift("new reference frame", x, 0, 0, 0, 0);
        shift("against it", x, 1, 0, 0, 0);
        x.undo();
        shift("after undo", x, 2, 1, 0, 0);
        x.setSetting(GlacierCamera.SHIFT, 0);
        shift("after setSetting", x, 2, 0, 0, 18);
        x.undo();
        x.setSetting(GlacierCamera.WINDOW, 0);
        shift("after another change instead", x, 2, 1, 0, 0);
        x.undo();
        Check.equal("first frame", x.isOriented(0), true);
        x.setPixel(0, 3, 2, 1);
        Check.equal("no longer usable", x.isOriented(0), false);
        x.undo();
        x.setPixel(2, 4, 2, 0);
        x.setPixel(2, 2, 2, 9);
        shift("after setPixel", x, 2, -1, 0, 0);
        Check.load(x, "size 8 6;control 3 2;" + dots(1, 3, 2, 9) + dots(2, 3, 1, 9));
        shift("after load", x, 1, 0, -1, 0);
    }
}
