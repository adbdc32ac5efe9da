/** Promises 60 to 65: registered and changed pixels, the snow line, strain, direction and melt in a segment. */
public final class ImageTest {
    public static void main(String[] args) {
        registered();
        changedPixels();
        snowLine();
        strain();
        direction();
        meltInSegment();
        Check.finish();
    }

    private static String dots(int day, int... dots) {
        return Scenes.frame(8, 4, day, dots);
    }

    /** The camera shifts by (1, -1) in the second frame; the third one is not usable. */
    private static GlacierCamera shifted() {
        return Check.loaded("size 8 4;set window 0;control 2 2;" + dots(1, 2, 2, 9, 5, 1, 4)
            + dots(2, 3, 1, 9, 6, 0, 3, 0, 0, 2) + dots(3));
    }

    private static void registered() {
        GlacierCamera x = shifted();
        Check.equal("reference frame", x.registered(0, 2, 2), 9);
        Check.equal("shifted", x.registered(1, 2, 2), 9);
        Check.equal("other pixel", x.registered(1, 5, 1), 3);
        Check.equal("beyond the right edge", x.registered(1, 7, 2), -1);
        Check.equal("beyond the upper edge", x.registered(1, 2, 0), -1);
        Check.equal("at the corner", x.registered(1, 6, 1), 0);
        Check.equal("not oriented", x.registered(2, 2, 2), -1);
        int[][] wrong = {{-1, 0, 0}, {3, 0, 0}, {0, 8, 0}, {0, -1, 0}, {0, 0, 4}, {0, 0, -1}, {2, 8, 0}};
        for (int[] call : wrong) {
            Check.outOfBounds("registered " + java.util.Arrays.toString(call),
                () -> x.registered(call[0], call[1], call[2]));
        }
    }

    private static void changedPixels() {
        GlacierCamera x = shifted();
        Check.equal("one by 1", x.changedPixels(0, 1, 1), 1);
        Check.equal("none by 2", x.changedPixels(0, 1, 2), 0);
        Check.equal("the same frame", x.changedPixels(1, 1, 1), 0);
        x.setPixel(1, 4, 1, 9);
        Check.equal("by 9", x.changedPixels(1, 0, 9), 1);
        Check.equal("by 1", x.changedPixels(1, 0, 1), 2);
        // Row 0 of the reference frame is not in the shifted one.
        x.setPixel(0, 4, 0, 9);
        Check.equal("outside one of them", x.changedPixels(0, 1, 1), 2);
        GlacierCamera corners = Check.loaded("size 8 4;" + dots(1, 0, 0, 9, 7, 3, 9) + dots(2, 0, 0, 4, 7, 0, 9, 0, 3, 3));
        Check.equal("in all four corners by 3", corners.changedPixels(0, 1, 3), 4);
        Check.equal("in three of them by 4", corners.changedPixels(0, 1, 4), 3);
        Check.equal("in two of them by 6", corners.changedPixels(0, 1, 6), 2);
        Check.equal("not oriented", x.changedPixels(0, 2, 1), -1);
        Check.equal("not oriented either", x.changedPixels(2, 1, 1), -1);
        Check.equal("difference 0", x.changedPixels(0, 1, 0), -2);
        Check.equal("difference 10", x.changedPixels(0, 1, 10), -2);
        Check.equal("difference before orientation", x.changedPixels(0, 2, 0), -2);
        Check.outOfBounds("frame before difference", () -> x.changedPixels(3, 0, 0));
        Check.outOfBounds("second frame", () -> x.changedPixels(0, 3, 1));
        Check.outOfBounds("negative frames", () -> x.changedPixels(-1, -1, 1));
    }

    private static void snowLine() {
        GlacierCamera x = Check.loaded("size 5 4;frame 0 99900 55550 22200 10000;frame 1 00000 00000 00000 00000;");
        Check.equal("brightness 0", x.snowLine(0, 0), 4);
        Check.equal("brightness 1", x.snowLine(0, 1), 3);
        Check.equal("brightness 2", x.snowLine(0, 2), 3);
        Check.equal("brightness 3", x.snowLine(0, 3), 2);
        Check.equal("brightness 6", x.snowLine(0, 6), 1);
        Check.equal("brightness 9", x.snowLine(0, 9), 1);
        Check.equal("dark frame", x.snowLine(1, 1), 0);
        Check.equal("a frame that is not usable counts too", x.snowLine(1, 0), 4);
        Check.equal("brightness 10", x.snowLine(0, 10), -2);
        Check.equal("brightness -1", x.snowLine(0, -1), -2);
        Check.outOfBounds("frame before brightness", () -> x.snowLine(2, 10));
        Check.outOfBounds("frame -1", () -> x.snowLine(-1, 1));
        GlacierCamera even = Check.loaded("size 4 4;frame 0 9900 0099 9000 9999;");
        Check.equal("exactly half is not fewer than half", even.snowLine(0, 9), 2);
        GlacierCamera odd = Check.loaded("size 5 4;frame 0 77700 07007 77777 77777;");
        Check.equal("two of five are fewer than half", odd.snowLine(0, 7), 1);
        GlacierCamera wide = Check.loaded("size 12 4;frame 0 777777000000 000000777777 777770000000 777777777777;");
        Check.equal("six and five of twelve", wide.snowLine(0, 7), 2);
    }

    private static void strain() {
        GlacierCamera x = Check.loaded("size 8 4;set window 0;feature 1 1;feature 3 2;feature 7 3;"
            + dots(0, 1, 1, 9, 3, 2, 6) + dots(1, 1, 1, 9) + dots(2, 1, 0, 9, 4, 3, 6));
        Check.equal("second one lost in between", x.trackX(1, 1), -1);
        Check.equal("from 223 to 424", x.strain(0, 1), 424 - 223);
        Check.equal("the other way", x.strain(1, 0), 424 - 223);
        Check.equal("with itself", x.strain(0, 0), 0);
        x.removeFrame(2);
        Check.equal("together in one frame", x.strain(0, 1), Integer.MIN_VALUE);
        Check.equal("itself in two frames", x.strain(0, 0), 0);
        Check.equal("the lost one with itself", x.strain(1, 1), Integer.MIN_VALUE);
        x.setSetting(GlacierCamera.CONTRAST, 9);
        x.setPixel(0, 1, 1, 8);
        x.setPixel(1, 1, 1, 8);
        Check.equal("no usable frame", x.strain(0, 1), Integer.MIN_VALUE);
        Check.outOfBounds("first -1", () -> x.strain(-1, 0));
        Check.outOfBounds("first 3", () -> x.strain(3, 0));
        Check.outOfBounds("second 3", () -> x.strain(0, 3));
        Check.outOfBounds("second -1", () -> x.strain(0, -1));
        GlacierCamera shrinking = Check.loaded("size 8 4;set window 0;feature 1 1;feature 4 1;"
            + dots(0, 1, 1, 9, 4, 1, 6) + dots(1, 2, 1, 9, 4, 1, 6));
        Check.equal("shrinking", shrinking.strain(0, 1), -100);
    }

    private static void direction() {
        int[][] due = {{1, 0, 0}, {3, 1, 0}, {2, 1, 1}, {1, 1, 1}, {1, 2, 1}, {1, 3, 2}, {0, 1, 2}, {-1, 3, 2}, {-1, 2, 3},
            {-2, 1, 3}, {-3, 1, 4}, {-1, 0, 4}, {-3, -1, 4}, {-2, -1, 5}, {-1, -2, 5}, {-1, -3, 6}, {0, -1, 6}, {1, -3, 6},
            {1, -2, 7}, {2, -1, 7}, {3, -1, 0}, {0, 0, -1}};
        for (int[] move : due) {
            GlacierCamera x = Check.loaded("set window 0;set range 4;feature 5 4;" + Scenes.frame(12, 8, 0, 5, 4, 9)
                + Scenes.frame(12, 8, 1, 5 + move[0], 4 + move[1], 9));
            Check.equal("direction of " + move[0] + ", " + move[1], x.direction(0), move[2]);
        }
        GlacierCamera back = Check.loaded("size 8 4;set window 0;feature 1 1;" + dots(0, 1, 1, 9) + dots(1, 2, 1, 9)
            + dots(2, 1, 2, 9));
        Check.equal("from the first to the last frame", back.direction(0), 2);
        back.setSetting(GlacierCamera.CONTRAST, 9);
        back.setPixel(0, 1, 1, 8);
        back.setPixel(1, 2, 1, 8);
        back.setPixel(2, 1, 2, 8);
        Check.equal("no usable frame", back.direction(0), -1);
        Check.outOfBounds("feature 1", () -> back.direction(1));
        Check.outOfBounds("feature -1", () -> back.direction(-1));
    }

    private static void meltInSegment() {
        GlacierCamera x = Check.loaded("size 8 4;set window 0;feature 1 1;stake 5 0 15 20;stake 0 0 40 41;"
            + dots(5, 1, 1, 9) + dots(6, 1, 1, 9) + dots(15, 2, 1, 9) + dots(39, 2, 1, 9) + dots(50, 2, 1, 9));
        // From day 5 to day 6: 200 and 615 - 512.
        Check.equal("two stakes", x.meltInSegment(0, 0), (200 + 103) / 2);
        Check.equal("two stakes again", x.meltInSegment(0, 1), (1800 + 1537 - 615) / 2);
        Check.equal("one stake", x.meltInSegment(0, 2), 3997 - 1537);
        Check.equal("no stake", x.meltInSegment(0, 3), -1);
        for (int i = 0; i < 4; i++) {
            Check.equal("as meanMelt " + i, x.meltInSegment(0, i), x.meanMelt(x.frameDay(i), x.frameDay(i + 1)));
        }
        Check.outOfBounds("segment 4", () -> x.meltInSegment(0, 4));
        Check.outOfBounds("segment -1", () -> x.meltInSegment(0, -1));
        Check.outOfBounds("feature 1", () -> x.meltInSegment(1, 0));
        Check.outOfBounds("feature -1", () -> x.meltInSegment(-1, 0));
    }
}
