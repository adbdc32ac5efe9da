/** Promises 24 to 26: matches, their mismatch and margin. */
public final class MatchTest {
    public static void main(String[] args) {
        plainMatch();
        ties();
        expectedPixel();
        windowsAndCandidates();
        sameFrame();
        notOriented();
        wrongIndices();
        Check.finish();
    }

    private static String dots(int day, int... dots) {
        return Scenes.frame(8, 6, day, dots);
    }

    private static void match(String what, GlacierCamera x, int[] call, int column, int row, int error, int margin) {
        int due = column < 0 ? -1 : 16 * column + row;
        Check.equal(what + ": match", x.match(call[0], call[1], call[2], call[3]), due);
        Check.equal(what + ": matchError", x.matchError(call[0], call[1], call[2], call[3]), error);
        Check.equal(what + ": matchMargin", x.matchMargin(call[0], call[1], call[2], call[3]), margin);
    }

    private static void plainMatch() {
        GlacierCamera x = Check.loaded("size 8 6;" + dots(1, 3, 2, 9, 4, 2, 4) + dots(2, 5, 3, 8, 6, 3, 4));
        match("moved", x, new int[] {0, 3, 2, 1}, 5, 3, 1, 12);
        match("backwards", x, new int[] {1, 5, 3, 0}, 3, 2, 1, 11);
        x.setSetting(GlacierCamera.WINDOW, 0);
        match("single pixels", x, new int[] {0, 3, 2, 1}, 5, 3, 1, 8);
        x.setSetting(GlacierCamera.RANGE, 1);
        match("out of RANGE", x, new int[] {0, 3, 2, 1}, 3, 2, 9, 0);
        x.setSetting(GlacierCamera.RANGE, 4);
        match("far", x, new int[] {0, 1, 2, 1}, 1, 2, 0, 0);
        x.setPixel(1, 7, 5, 9);
        match("farthest", x, new int[] {0, 3, 2, 1}, 7, 5, 0, 1);
    }

    private static void ties() {
        String start = "size 8 6;set window 0;" + dots(1, 3, 2, 5);
        int[] call = {0, 3, 2, 1};
        match("nearest", Check.loaded(start + dots(2, 2, 1, 5, 4, 2, 5)), call, 4, 2, 0, 0);
        match("least row", Check.loaded(start + dots(2, 2, 2, 5, 3, 1, 5, 4, 2, 5)), call, 3, 1, 0, 0);
        match("least column", Check.loaded(start + dots(2, 2, 2, 5, 4, 2, 5, 3, 3, 5)), call, 2, 2, 0, 0);
        match("row before column", Check.loaded(start + dots(2, 2, 3, 5, 4, 1, 5)), call, 4, 1, 0, 0);
        match("mismatch before distance", Check.loaded(start + dots(2, 3, 2, 4, 1, 4, 5)), call, 1, 4, 0, 1);
        match("margin to the third best found first", Check.loaded(start + dots(2, 1, 0, 3, 3, 2, 4, 5, 4, 5)), call, 5, 4, 0, 1);
        match("margin to a worse one found last", Check.loaded(start + dots(2, 1, 0, 5, 5, 4, 3)), call, 1, 0, 0, 2);
    }

    private static void expectedPixel() {
        // The camera shifted by (1, 1); the nearest of equal pixels is the one nearest to the expected one.
        GlacierCamera x = Check.loaded("size 8 6;set window 0;set range 1;control 0 0;"
            + dots(1, 0, 0, 9, 4, 3, 5) + dots(2, 1, 1, 9, 3, 2, 5));
        Check.equal("shift", 10 * x.shiftX(1) + x.shiftY(1), 11);
        match("the dot at (3, 2) is out of range of (5, 4)", x, new int[] {0, 4, 3, 1}, 5, 4, 5, 0);
        match("from shifted to reference frame", x, new int[] {1, 3, 2, 0}, 2, 1, 5, 0);
        match("from the corner, expected outside", x, new int[] {1, 0, 0, 0}, 0, 0, 9, -1);
        match("expected beyond the other corner", x, new int[] {0, 7, 5, 1}, 7, 5, 0, -1);
        GlacierCamera y = Check.loaded("size 8 6;set window 0;set range 1;set shift 3;control 0 0;"
            + dots(1, 0, 0, 9) + dots(2, 3, 0, 9));
        match("no candidate", y, new int[] {0, 7, 2, 1}, -1, -1, -1, -1);
        match("one column of candidates", y, new int[] {0, 5, 2, 1}, 7, 2, 0, 0);
        y.setSetting(GlacierCamera.RANGE, 3);
        match("reached with a wider range", y, new int[] {0, 7, 2, 1}, 7, 2, 0, 0);
    }

    private static void windowsAndCandidates() {
        GlacierCamera x = Check.loaded("size 4 4;" + Scenes.frame(4, 4, 1, 1, 1, 9) + Scenes.frame(4, 4, 2, 2, 2, 9));
        match("window inside", x, new int[] {0, 1, 1, 1}, 2, 2, 0, 18);
        GlacierCamera skew = Check.loaded("size 8 6;" + dots(1, 3, 1, 9, 4, 2, 6, 2, 3, 3)
            + dots(2, 4, 2, 9, 5, 3, 6, 3, 4, 3));
        match("neither turned nor mirrored", skew, new int[] {0, 3, 2, 1}, 4, 3, 0, 12);
        match("window at the left edge", x, new int[] {0, 0, 1, 1}, -1, -1, -1, -1);
        match("window at the upper edge", x, new int[] {0, 1, 0, 1}, -1, -1, -1, -1);
        match("window at the right edge", x, new int[] {0, 3, 1, 1}, -1, -1, -1, -1);
        match("window at the lower edge", x, new int[] {0, 1, 3, 1}, -1, -1, -1, -1);
        x.setSetting(GlacierCamera.WINDOW, 2);
        match("window greater than the image", x, new int[] {0, 1, 1, 1}, -1, -1, -1, -1);
        GlacierCamera y = Check.loaded("size 5 5;set window 2;" + Scenes.frame(5, 5, 1, 1, 1, 9)
            + Scenes.frame(5, 5, 2, 4, 4, 9));
        match("only one candidate", y, new int[] {0, 2, 2, 1}, 2, 2, 18, -1);
        // Images of 4 rows: windows of radius 1 fit in columns 1 and 2 and in rows 1 and 2.
        GlacierCamera two = Check.loaded("size 4 4;set range 1;control 2 2;" + Scenes.frame(4, 4, 1, 2, 2, 9)
            + Scenes.frame(4, 4, 2, 2, 1, 9));
        Check.equal("shift up", 10 * two.shiftX(1) + two.shiftY(1), -1);
        match("four candidates", two, new int[] {0, 2, 2, 1}, 2, 1, 0, 18);
        match("two candidates alike", two, new int[] {0, 1, 1, 1}, 1, 1, 18, 0);
        two.setPixel(1, 3, 0, 4);
        match("two candidates, the better one first", two, new int[] {0, 1, 1, 1}, 1, 1, 18, 4);
        two.setPixel(1, 3, 2, 9);
        match("two candidates, the better one last", two, new int[] {0, 1, 1, 1}, 2, 1, 13, 5);
    }

    private static void sameFrame() {
        GlacierCamera x = Check.loaded("size 8 6;" + dots(1, 3, 2, 9));
        match("with itself", x, new int[] {0, 3, 2, 0}, 3, 2, 0, 9);
        match("dark pixel", x, new int[] {0, 6, 4, 0}, 6, 4, 0, 0);
    }

    private static void notOriented() {
        GlacierCamera x = Check.loaded("size 8 6;" + dots(1) + dots(2, 3, 2, 9) + dots(3, 3, 2, 9));
        match("from an unusable frame", x, new int[] {0, 3, 2, 1}, -1, -1, -1, -1);
        match("to an unusable frame", x, new int[] {1, 3, 2, 0}, -1, -1, -1, -1);
        match("between usable ones", x, new int[] {1, 3, 2, 2}, 3, 2, 0, 9);
        x.setSetting(GlacierCamera.CONTRAST, 9);
        x.setPixel(2, 3, 2, 8);
        match("no longer usable", x, new int[] {1, 3, 2, 2}, -1, -1, -1, -1);
    }

    private static void wrongIndices() {
        GlacierCamera x = Check.loaded("size 8 6;" + dots(1) + dots(2, 3, 2, 9));
        int[][] wrong = {{-1, 3, 2, 1}, {2, 3, 2, 1}, {1, 3, 2, -1}, {1, 3, 2, 2}, {1, -1, 2, 1}, {1, 8, 2, 1}, {1, 3, -1, 1},
            {1, 3, 6, 1}, {0, 8, 2, 1}, {Integer.MAX_VALUE, 0, 0, 0}, {0, Integer.MIN_VALUE, 0, 0}};
        for (int[] call : wrong) {
            String what = java.util.Arrays.toString(call);
            Check.outOfBounds("match " + what, () -> x.match(call[0], call[1], call[2], call[3]));
            Check.outOfBounds("matchError " + what, () -> x.matchError(call[0], call[1], call[2], call[3]));
            Check.outOfBounds("matchMargin " + what, () -> x.matchMargin(call[0], call[1], call[2], call[3]));
        }
    }
}
