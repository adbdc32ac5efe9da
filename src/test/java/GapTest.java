/** Promises 44 to 47: gaps between usable frames. */
public final class GapTest {
    public static void main(String[] args) {
        gaps();
        unusableFrames();
        none();
        Check.finish();
    }

    private static String frames(int... days) {
        StringBuilder text = new StringBuilder("size 4 4;");
        for (int day : days) {
            text.append(Scenes.frame(4, 4, day, 1, 1, 5));
        }
        return text.toString();
    }

    private static void gaps() {
        GlacierCamera x = Check.loaded(frames(0, 10, 21, 22, 40, 9999));
        Check.equal("gapCount", x.gapCount(), 3);
        int[][] due = {{10, 11}, {22, 18}, {40, 9959}};
        for (int i = 0; i < 3; i++) {
            Check.equal("gapStart " + i, x.gapStart(i), due[i][0]);
            Check.equal("gapDays " + i, x.gapDays(i), due[i][1]);
        }
        for (int wrong : new int[] {-1, 3, Integer.MIN_VALUE, Integer.MAX_VALUE}) {
            Check.equal("gapStart " + wrong, x.gapStart(wrong), -1);
            Check.equal("gapDays " + wrong, x.gapDays(wrong), -1);
        }
        Check.equal("longestGap", x.longestGap(), 9959);
        x.setSetting(GlacierCamera.GAP, 9);
        Check.equal("ten days are more than 9", x.gapCount(), 4);
        Check.equal("first gap", x.gapStart(0), 0);
        x.setSetting(GlacierCamera.GAP, 1);
        Check.equal("one day is never a gap", x.gapCount(), 4);
        x.setSetting(GlacierCamera.GAP, 18);
        Check.equal("only the last one", x.gapStart(0), 40);
        x.removeFrame(5);
        Check.equal("no longest gap", x.longestGap(), 0);
        GlacierCamera five = Check.loaded(frames(0, 11, 22, 33, 44, 55));
        Check.equal("five gaps", five.gapCount(), 5);
        Check.equal("the last of five", five.gapStart(4), 44);
    }

    private static void unusableFrames() {
        GlacierCamera x = Check.loaded(frames(0, 6, 12, 18));
        Check.equal("no gap", x.gapCount(), 0);
        x.setPixel(1, 1, 1, 1);
        Check.equal("an unusable frame in between", x.gapCount(), 1);
        Check.equal("it starts before", x.gapStart(0), 0);
        Check.equal("its days", x.gapDays(0), 12);
        x.setPixel(2, 1, 1, 1);
        Check.equal("two of them", x.gapDays(0), 18);
        Check.equal("longestGap", x.longestGap(), 18);
        x.setPixel(3, 1, 1, 1);
        Check.equal("no second usable frame", x.gapCount(), 0);
        x.setPixel(0, 1, 1, 1);
        Check.equal("no usable frame", x.gapCount(), 0);
        x.setSetting(GlacierCamera.CONTRAST, 1);
        Check.equal("all usable", x.gapCount(), 0);
    }

    private static void none() {
        GlacierCamera x = new GlacierCamera();
        Check.equal("gapCount", x.gapCount(), 0);
        Check.equal("gapStart", x.gapStart(0), -1);
        Check.equal("gapDays", x.gapDays(0), -1);
        Check.equal("longestGap", x.longestGap(), 0);
    }
}
