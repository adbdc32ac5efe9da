/** Promises 44 to 47: the boundary cases of gaps. */
public final class BoundaryGapTest {
    private static final int NOT_FOUND = -1;
    private static final int[] NO_INDICES = {-1, Integer.MIN_VALUE, Integer.MAX_VALUE};

    public static void main(String[] args) {
        Cases.run(BoundaryGapTest.class);
    }

    private static GlacierCamera frames(String statements, int... days) {
        StringBuilder text = new StringBuilder("size 4 4;").append(statements);
        for (int day : days) {
            text.append(Scenes.frame(4, 4, day, 1, 1, 5));
        }
        return Check.loaded(text.toString());
    }

    private static void gaps(String what, GlacierCamera x, int... startsAndDays) {
        int count = startsAndDays.length / 2;
        int longest = 0;
        Check.equal(what + ": gapCount", x.gapCount(), count);
        for (int i = 0; i < count; i++) {
            Check.equal(what + ": gapStart " + i, x.gapStart(i), startsAndDays[2 * i]);
            Check.equal(what + ": gapDays " + i, x.gapDays(i), startsAndDays[2 * i + 1]);
            longest = Math.max(longest, startsAndDays[2 * i + 1]);
        }
        Check.equal(what + ": gapStart beyond the last", x.gapStart(count), NOT_FOUND);
        Check.equal(what + ": gapDays beyond the last", x.gapDays(count), NOT_FOUND);
        Check.equal(what + ": longestGap", x.longestGap(), longest);
    }

    @Says("A gap is between two successive usable frames whose days differ by more than GAP")
    static void promise44_daysEqualToGAPAndOneMore() {
        gaps("10 days", frames("", 0, 10));
        gaps("11 days", frames("", 0, 11), 0, 11);
        gaps("1 day at GAP 1", frames("set gap 1;", 0, 1));
        gaps("2 days at GAP 1", frames("set gap 1;", 0, 2), 0, 2);
        gaps("999 days at GAP 999", frames("set gap 999;", 0, 999));
        gaps("1000 days at GAP 999", frames("set gap 999;", 0, 1000), 0, 1000);
    }

    @Says("Returns 0 to 5")
    static void promise44_gapsOfNoneToSixFrames() {
        gaps("no frame", frames(""));
        gaps("one frame", frames("", 5000));
        gaps("two frames", frames("", 0, 11), 0, 11);
        gaps("six frames", frames("", 0, 11, 23, 36, 50, 65), 0, 11, 11, 12, 23, 13, 36, 14, 50, 15);
        gaps("six frames without a gap", frames("", 0, 10, 20, 30, 40, 50));
        gaps("the last of six", frames("", 0, 10, 20, 30, 40, 51), 40, 11);
        gaps("the first of six", frames("", 0, 11, 21, 31, 41, 51), 0, 11);
    }

    @Says("A gap is between two successive usable frames")
    static void promise44_framesThatAreNotUsable() {
        GlacierCamera x = frames("", 0, 10, 20, 30, 41);
        gaps("all usable", x, 30, 11);
        x.setPixel(0, 1, 1, 1);
        gaps("without the first one", x, 30, 11);
        x.setPixel(2, 1, 1, 1);
        gaps("without one in between", x, 10, 20, 30, 11);
        x.setPixel(3, 1, 1, 1);
        gaps("without two of them", x, 10, 31);
        x.setPixel(4, 1, 1, 1);
        gaps("without the last one", x);
        x.setPixel(1, 1, 1, 1);
        gaps("none usable", x);
        x.setPixel(3, 1, 1, 2);
        gaps("one usable at contrast 2", x);
        x.setPixel(0, 1, 1, 2);
        gaps("two usable at contrast 2", x, 0, 30);
    }

    @Says({"It starts on the day of the first of them", "Gaps are indexed from 0", "NOT_FOUND if there is no such gap"})
    static void promise45_firstAndLastDayAndNoSuchGap() {
        GlacierCamera x = frames("", 0, 9988, 9999);
        Check.equal("first", x.gapStart(0), 0);
        Check.equal("last", x.gapStart(1), 9988);
        Check.equal("beyond the last", x.gapStart(2), NOT_FOUND);
        Check.equal("without gaps", frames("", 0, 10).gapStart(0), NOT_FOUND);
        Check.equal("new object", new GlacierCamera().gapStart(0), NOT_FOUND);
        Refusal.refused("gapStart(9)", y -> y.gapStart(9), NOT_FOUND);
        for (int gap : NO_INDICES) {
            Check.equal("gap " + gap, x.gapStart(gap), NOT_FOUND);
            Refusal.refused("gapStart(" + gap + ")", y -> y.gapStart(gap), NOT_FOUND);
        }
    }

    @Says({"its length is the difference of the days", "NOT_FOUND if there is no such gap"})
    static void promise46_greatestLengthAndNoSuchGap() {
        GlacierCamera x = frames("", 0, 9999);
        Check.equal("greatest", x.gapDays(0), 9999);
        Check.equal("beyond the last", x.gapDays(1), NOT_FOUND);
        Check.equal("without gaps", frames("", 0, 10).gapDays(0), NOT_FOUND);
        Check.equal("new object", new GlacierCamera().gapDays(0), NOT_FOUND);
        Refusal.refused("gapDays(9)", y -> y.gapDays(9), NOT_FOUND);
        for (int gap : NO_INDICES) {
            Check.equal("gap " + gap, x.gapDays(gap), NOT_FOUND);
            Refusal.refused("gapDays(" + gap + ")", y -> y.gapDays(gap), NOT_FOUND);
        }
    }

    @Says("0 if there are no gaps")
    static void promise47_noGapAndOneDayMore() {
        Check.equal("new object", new GlacierCamera().longestGap(), 0);
        Check.equal("10 days", frames("", 5, 15).longestGap(), 0);
        Check.equal("11 days", frames("", 5, 16).longestGap(), 11);
        Check.equal("no usable frame", frames("set contrast 9;", 5, 16).longestGap(), 0);
    }

    @Says("Returns the length of the longest gap")
    static void promise47_longestFirstLastAndInBetween() {
        Check.equal("first", frames("", 0, 30, 50, 61).longestGap(), 30);
        Check.equal("in between", frames("", 0, 20, 50, 61).longestGap(), 30);
        Check.equal("last", frames("", 0, 11, 31, 61).longestGap(), 30);
        Check.equal("alike", frames("", 0, 11, 22, 33).longestGap(), 11);
        Check.equal("greatest", frames("", 0, 9999).longestGap(), 9999);
    }
}
