/** Promises 33 to 43: segments, speeds, surges, positions and moved features. */
public final class SpeedTest {
    public static void main(String[] args) {
        segmentsAndSpeeds();
        trueMovement();
        meanSpeeds();
        fastest();
        surges();
        positions();
        negativePositions();
        moving();
        wrongIndices();
        Check.finish();
    }

    private static String dots(int day, int... dots) {
        return Scenes.frame(8, 4, day, dots);
    }

    /** A feature that moves by (1, 0) in 3 days, is lost, moves by (1, 1) in 7 days and rests for 1 day. */
    private static GlacierCamera moved() {
        return Check.loaded("size 8 4;set window 0;feature 1 1;feature 5 3;" + dots(2, 1, 1, 9) + dots(5, 2, 1, 9)
            + dots(6, 7, 0, 3) + dots(12, 3, 2, 9) + dots(13, 3, 2, 9));
    }

    private static void segmentsAndSpeeds() {
        GlacierCamera x = moved();
        Check.equal("segmentCount", x.segmentCount(0), 3);
        Check.equal("speed(0, 0)", x.speed(0, 0), 33);
        Check.equal("speed(0, 1) over the frame where it is lost", x.speed(0, 1), 20);
        Check.equal("speed(0, 2)", x.speed(0, 2), 0);
        x.setSetting(GlacierCamera.SCALE, 1000);
        Check.equal("speed(0, 0) at 1000", x.speed(0, 0), 333);
        Check.equal("speed(0, 1) at 1000", x.speed(0, 1), 202);
        x.setSetting(GlacierCamera.SCALE, 5);
        Check.equal("length 7, not 7.07", x.speed(0, 1), 1);
        Check.equal("a resting feature", x.segmentCount(1), 4);
        Check.equal("its speed", x.speed(1, 3), 0);
    }

    private static void trueMovement() {
        // The camera moves by (1, 0) and the dot with it: its true position rests.
        GlacierCamera x = Check.loaded("size 8 4;set window 0;control 0 0;feature 3 1;feature 5 2;"
            + dots(0, 0, 0, 9, 3, 1, 5, 5, 2, 6) + dots(1, 1, 0, 9, 4, 1, 5, 5, 2, 6));
        Check.equal("moves with the camera", x.speed(0, 0), 0);
        Check.equal("direction at rest", x.direction(0), -1);
        Check.equal("rests in the image", x.speed(1, 0), 100);
        Check.equal("direction against the camera", x.direction(1), 4);
        Check.equal("position in hundredths", x.positionX(1, 1), 400);
    }

    private static void meanSpeeds() {
        GlacierCamera x = moved();
        Check.equal("meanSpeed: (100 + 141 + 0) / 11", x.meanSpeed(0), 21);
        Check.equal("with the same scale", x.meanSpeedWithScale(0, 100), 21);
        Check.equal("with scale 1: (1 + 1) / 11", x.meanSpeedWithScale(0, 1), 0);
        Check.equal("with scale 1000: 2414 / 11", x.meanSpeedWithScale(0, 1000), 219);
        Check.equal("scale 0", x.meanSpeedWithScale(0, 0), -2);
        Check.equal("scale 1001", x.meanSpeedWithScale(0, 1001), -2);
        Check.equal("SCALE is as before", x.getSetting(GlacierCamera.SCALE), 100);
        Check.equal("no change", x.undoCount(), 0);
        x.setSetting(GlacierCamera.SCALE, 1000);
        Check.equal("meanSpeed at 1000", x.meanSpeed(0), 219);
        x.setSetting(GlacierCamera.TOLERANCE, 0);
        x.setPixel(0, 1, 1, 8);
        Check.equal("no segments", x.segmentCount(0), 0);
        Check.equal("meanSpeed without segments", x.meanSpeed(0), 0);
        Check.equal("wrong scale without segments", x.meanSpeedWithScale(0, 0), -2);
    }

    private static void fastest() {
        GlacierCamera x = moved();
        Check.equal("fastestFeature", x.fastestFeature(), 0);
        x.moveFeature(0, 0, 3);
        Check.equal("both rest: lower index", x.fastestFeature(), 0);
        x.moveFeature(1, 1, 1);
        Check.equal("the second one", x.fastestFeature(), 1);
        x.moveFeature(0, 1, 1);
        Check.equal("tie", x.fastestFeature(), 0);
        GlacierCamera lost = Check.loaded("size 8 4;feature 0 0;feature 3 2;" + dots(1, 3, 2, 9) + dots(2, 3, 2, 9));
        Check.equal("without segments it does not count", lost.fastestFeature(), 1);
        lost.removeFrame(0);
        Check.equal("none counts", lost.fastestFeature(), -1);
        Check.equal("no features", new GlacierCamera().fastestFeature(), -1);
    }

    private static void surges() {
        // Speeds 100, 100, 0, 100, 200.
        GlacierCamera x = Check.loaded("size 8 4;set window 0;feature 0 1;" + dots(10, 0, 1, 9) + dots(11, 1, 1, 9)
            + dots(12, 2, 1, 9) + dots(22, 2, 1, 9) + dots(23, 3, 1, 9) + dots(24, 5, 1, 9));
        surge("at 100", x, 100, new int[][] {{10, 2}, {22, 2}});
        surge("at 101", x, 101, new int[][] {{23, 1}});
        surge("at 200", x, 200, new int[][] {{23, 1}});
        surge("at 201", x, 201, new int[][] {});
        surge("at 0", x, 0, new int[][] {{10, 14}});
        surge("at 1", x, 1, new int[][] {{10, 2}, {22, 2}});
        Check.equal("surge -1", x.surgeStart(0, -1), -1);
        Check.equal("days of surge -1", x.surgeDays(0, -1), -1);
        Check.equal("greatest surge", x.surgeDays(0, Integer.MAX_VALUE), -1);
        Check.equal("no tracks", Check.loaded("feature 1 1;").surgeCount(0), 0);
    }

    private static void surge(String what, GlacierCamera x, int threshold, int[][] due) {
        x.setSetting(GlacierCamera.SURGE, threshold);
        Check.equal(what + ": surgeCount", x.surgeCount(0), due.length);
        for (int i = 0; i < due.length; i++) {
            Check.equal(what + ": surgeStart " + i, x.surgeStart(0, i), due[i][0]);
            Check.equal(what + ": surgeDays " + i, x.surgeDays(0, i), due[i][1]);
        }
        Check.equal(what + ": surgeStart of no surge", x.surgeStart(0, due.length), -1);
        Check.equal(what + ": surgeDays of no surge", x.surgeDays(0, due.length), -1);
    }

    private static void positions() {
        GlacierCamera x = moved();
        int[][] due = {{2, 100, 100}, {3, 133, 100}, {4, 166, 100}, {5, 200, 100}, {6, 214, 114}, {11, 285, 185},
            {12, 300, 200}, {13, 300, 200}};
        for (int[] day : due) {
            Check.equal("positionX on day " + day[0], x.positionX(0, day[0]), day[1]);
            Check.equal("positionY on day " + day[0], x.positionY(0, day[0]), day[2]);
        }
        for (int day : new int[] {1, 14, Integer.MIN_VALUE, Integer.MAX_VALUE}) {
            Check.equal("positionX on day " + day, x.positionX(0, day), Integer.MIN_VALUE);
            Check.equal("positionY on day " + day, x.positionY(0, day), Integer.MIN_VALUE);
        }
        GlacierCamera none = Check.loaded("feature 1 1;");
        Check.equal("positionX without frames", none.positionX(0, 1), Integer.MIN_VALUE);
        Check.equal("positionY without frames", none.positionY(0, 1), Integer.MIN_VALUE);
        GlacierCamera single = Check.loaded("size 8 4;feature 7 3;" + dots(5, 1, 1, 9));
        Check.equal("one frame", single.positionX(0, 5), 700);
        Check.equal("one frame, row", single.positionY(0, 5), 300);
        Check.equal("the day after", single.positionX(0, 6), Integer.MIN_VALUE);
    }

    private static void negativePositions() {
        // From (1, 1) to (0, 0): -100 * 1 / 3 is rounded down to -34.
        GlacierCamera x = Check.loaded("size 8 4;set window 0;feature 1 1;" + dots(0, 1, 1, 9) + dots(3, 0, 0, 9));
        Check.equal("a third of the way", x.positionX(0, 1), 66);
        Check.equal("two thirds of the way", x.positionY(0, 2), 33);
        // The camera shifts by (1, 1) while the dot rests in the image at (0, 0).
        GlacierCamera y = Check.loaded("size 8 4;set window 0;control 4 1;feature 0 0;" + dots(0, 4, 1, 9, 0, 0, 5)
            + dots(3, 5, 2, 9, 0, 0, 5));
        Check.equal("true column below 0", y.positionX(0, 3), -100);
        Check.equal("rounded to negative infinity", y.positionX(0, 1), -34);
        Check.equal("row as well", y.positionY(0, 2), -67);
        Check.equal("direction", y.direction(0), 5);
    }

    private static void moving() {
        GlacierCamera x = moved();
        Check.equal("moveFeature", x.moveFeature(1, 1, 1), true);
        Check.equal("is tracked from there", x.trackX(1, 4), 3);
        Check.equal("the other one stays", x.trackX(0, 0), 1);
        Check.equal("to the corner", x.moveFeature(0, 7, 3), true);
        Check.equal("column", x.trackX(0, 0), 7);
        Check.equal("row", x.trackY(0, 0), 3);
        int[][] wrong = {{-1, 1, 1}, {2, 1, 1}, {0, -1, 1}, {0, 8, 1}, {0, 1, -1}, {0, 1, 4}, {Integer.MAX_VALUE, 0, 0}};
        for (int[] call : wrong) {
            String what = java.util.Arrays.toString(call);
            Check.equal("moveFeature " + what, x.moveFeature(call[0], call[1], call[2]), false);
        }
        Check.equal("two changes", x.undoCount(), 2);
        Check.equal("unchanged", x.trackX(0, 0), 7);
        GlacierCamera none = Check.loaded("feature 1 1;");
        Check.equal("without frames", none.moveFeature(0, 11, 7), true);
    }

    private static void wrongIndices() {
        GlacierCamera x = moved();
        for (int wrong : new int[] {-1, 2, Integer.MIN_VALUE, Integer.MAX_VALUE}) {
            Check.outOfBounds("segmentCount " + wrong, () -> x.segmentCount(wrong));
            Check.outOfBounds("speed " + wrong, () -> x.speed(wrong, 0));
            Check.outOfBounds("meanSpeed " + wrong, () -> x.meanSpeed(wrong));
            Check.outOfBounds("meanSpeedWithScale " + wrong, () -> x.meanSpeedWithScale(wrong, 0));
            Check.outOfBounds("surgeCount " + wrong, () -> x.surgeCount(wrong));
            Check.outOfBounds("surgeStart " + wrong, () -> x.surgeStart(wrong, 0));
            Check.outOfBounds("surgeDays " + wrong, () -> x.surgeDays(wrong, 0));
            Check.outOfBounds("positionX " + wrong, () -> x.positionX(wrong, 2));
            Check.outOfBounds("positionY " + wrong, () -> x.positionY(wrong, 2));
        }
        Check.outOfBounds("speed of segment 3", () -> x.speed(0, 3));
        Check.outOfBounds("speed of segment -1", () -> x.speed(0, -1));
        Check.outOfBounds("speed of the greatest segment", () -> x.speed(0, Integer.MAX_VALUE));
    }
}
