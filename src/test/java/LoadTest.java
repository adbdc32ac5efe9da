/** Promises 1 to 12: a new object, the input buffer, load and its errors, counts and settings. */
public final class LoadTest {
    private static final String ROWS = " 0000 0000 0000 0000";

    public static void main(String[] args) {
        newObject();
        feeding();
        loading();
        failedLoadChangesOnlyTheBuffer();
        syntaxErrors();
        rangeErrors();
        duplicateErrors();
        orderErrors();
        countErrors();
        firstListedErrorWins();
        settings();
        Check.finish();
    }

    private static void newObject() {
        GlacierCamera x = new GlacierCamera();
        Check.equal("new width", x.width(), 12);
        Check.equal("new height", x.height(), 8);
        Check.equal("new frames", x.frameCount(), 0);
        Check.equal("new controls", x.controlCount(), 0);
        Check.equal("new features", x.featureCount(), 0);
        Check.equal("new stakes", x.stakeCount(), 0);
        Check.equal("new errorPosition", x.errorPosition(), -1);
        Check.equal("new undoCount", x.undoCount(), 0);
        Check.equal("new undo", x.undo(), -1);
        Check.equal("new load(1)", x.load(1), -2);
        initialSettings(x);
    }

    private static void initialSettings(GlacierCamera x) {
        int[] initial = {1, 2, 1, 2, 2, 100, 10, 50};
        for (int i = 0; i < 8; i++) {
            Check.equal("initial setting " + i, x.getSetting(i), initial[i]);
        }
    }

    private static void feeding() {
        GlacierCamera x = new GlacierCamera();
        for (int i = 1; i <= 70; i++) {
            Check.equal("feed " + i, x.feed(0x20202020, 0x20202020, 0x20202020, 0x20202020, 0x20202020), 20 * i);
        }
        Check.equal("feed 71", x.feed(0, 0, 0, 0, 0), -3);
        Check.equal("feed 72", x.feed(0, 0, 0, 0, 0), -3);
        Check.equal("load of the full buffer", x.load(1400), 0);
        Check.equal("feed after load", x.feed(0, 0, 0, 0, 0), 20);
        // Bytes in the order of the parameters, the most significant first: "set gap 7;set shift 3;"
        x.load(0);
        x.feed(0x73657420, 0x67617020, 0x373b7365, 0x74207368, 0x69667420);
        x.feed(0x333b2020, 0xffffffff, 0x80000000, 0x0d090000, 0x41424344);
        Check.equal("load of 22 bytes", x.load(22), 2);
        Check.equal("gap", x.getSetting(GlacierCamera.GAP), 7);
        Check.equal("shift", x.getSetting(GlacierCamera.SHIFT), 3);
    }

    private static void loading() {
        GlacierCamera x = new GlacierCamera();
        String text = "size 5 4;frame 0 01234 56789 00000 11111;frame 0009 5678900000 1111101234;";
        Check.equal("rows that run together", Check.load(x, text), -12);
        Check.equal("their position", x.errorPosition(), 52);
        Check.equal("whole text", Check.load(x, "\n size 0005 4 ;\nframe0 01234 56789\n00000 11111;control4 3;"
            + "feature 0 0;stake 0 5;set surge 9999;set window 0;"), 7);
        Check.equal("errorPosition", x.errorPosition(), -1);
        Check.equal("width", x.width(), 5);
        Check.equal("height", x.height(), 4);
        Check.equal("frames", x.frameCount(), 1);
        Check.equal("controls", x.controlCount(), 1);
        Check.equal("features", x.featureCount(), 1);
        Check.equal("stakes", x.stakeCount(), 1);
        Check.equal("surge", x.getSetting(7), 9999);
        Check.equal("window", x.getSetting(0), 0);
        x.setSetting(6, 5);
        Check.equal("second text", Check.load(x, "control 11 7;"), 1);
        Check.equal("frames are replaced", x.frameCount(), 0);
        Check.equal("size is initial again", 100 * x.width() + x.height(), 1208);
        Check.equal("nothing to undo after load", x.undoCount(), 0);
        Check.equal("undo after load", x.undo(), -1);
        initialSettings(x);
        Check.equal("six frames", Check.load(x, frames(6) + "stake 0 0 1 0 2 0 3 0 4 0 5 0 6 0 7 0;stake 0 9;stake 9999 9999;"
            + "control 0 0;control 1 1;control 2 2;control 3 3;"
            + "feature 0 0;feature 0 0;feature 0 0;feature 0 0;feature 0 0;feature 3 3;"), 20);
        Check.equal("frames, controls, features, stakes",
            1000 * x.frameCount() + 100 * x.controlCount() + 10 * x.featureCount() + x.stakeCount(), 6463);
        Check.equal("largest size", Check.load(x, "size 12 10;"), 1);
        Check.equal("largest height", x.height(), 10);
        Check.equal("blanks alone", Check.load(x, " \n "), 0);
        Check.equal("they replace all the same", x.height(), 8);
        Check.load(x, "set window 2;stake 1 1;");
        Check.load(x, "size");
        Check.equal("no text at all", x.load(0), 0);
        Check.equal("has no error", x.errorPosition(), -1);
        Check.equal("and replaces all the same", x.stakeCount(), 0);
        Check.load(x, "set window 2;set surge 1;");
        Check.load(x, "set window 0;set surge 2;");
        Check.load(x, "size 4 4;");
        initialSettings(x);
        Check.load(x, "size 4 4;");
        initialSettings(x);
    }

    private static String frames(int count) {
        StringBuilder text = new StringBuilder("size 4 4;");
        for (int i = 0; i < count; i++) {
            text.append("frame ").append(i).append(ROWS).append(';');
        }
        return text.toString();
    }

    private static void failedLoadChangesOnlyTheBuffer() {
        GlacierCamera x = Check.loaded("size 4 4;frame 3 0123 0000 0000 0000;stake 1 1;set gap 3;");
        x.setSetting(GlacierCamera.GAP, 4);
        Check.equal("failed load", Check.load(x, "size 5 5;set gap 9;stake 1 1;stake 2 2;bad"), -11);
        Check.equal("position", x.errorPosition(), 39);
        Check.equal("width stays", x.width(), 4);
        Check.equal("frame stays", x.pixel(0, 3, 0), 3);
        Check.equal("stakes stay", x.stakeCount(), 1);
        Check.equal("gap stays", x.getSetting(GlacierCamera.GAP), 4);
        Check.equal("the buffer is empty", x.load(1), -2);
        Check.equal("BAD_VALUE keeps the position", x.errorPosition(), 39);
        Check.equal("changes stay", x.undo(), 0);
        Check.equal("undone", x.getSetting(GlacierCamera.GAP), 3);
        Check.feed(x, "size 6 6;");
        Check.equal("negative length", x.load(-1), -2);
        Check.equal("length beyond the buffer", x.load(21), -2);
        Check.equal("least length", x.load(Integer.MIN_VALUE), -2);
        Check.equal("the buffer is unchanged", x.load(9), 1);
        Check.equal("load without an error", x.errorPosition(), -1);
        Check.equal("width of the load", x.width(), 6);
    }

    private static void error(String text, int code, int position) {
        GlacierCamera x = new GlacierCamera();
        Check.equal("load of " + text, Check.load(x, text), code);
        Check.equal("position in " + text, x.errorPosition(), position);
    }

    private static void syntaxErrors() {
        error(";", -11, 0);
        error("set gap 1;;", -11, 10);
        error("hello", -11, 0);
        error("sizes 4 4;", -11, 0);
        error("siz 4 4;", -11, 0);
        error("xize 4 4;", -11, 0);
        error("sizx 4 4;", -11, 0);
        error("12", -11, 0);
        error("Set gap 1;", -11, 0);
        error("set\tgap 1;", -11, 3);
        error("set gap 1;\r", -11, 10);
        error("set gap 1;\u00ff", -11, 10);
        error("set gap -1;", -11, 8);
        error("set", -11, 3);
        error("set \n", -11, 5);
        error("set gap", -11, 7);
        error("set gap 1", -11, 9);
        error("set gap 1 ", -11, 10);
        error("set gap 1 1;", -11, 10);
        error("set gap x;", -11, 8);
        error("set set 1;", -11, 4);
        error("set gaps 1;", -11, 4);
        error("set 6 1;", -11, 4);
        error("size 4;", -11, 6);
        error("size 4 4 4;", -11, 9);
        error("control 1;", -11, 9);
        error("control size 1;", -11, 8);
        error("feature 1 1 1;", -11, 12);
        error("frame 1;", -11, 7);
        error("frame;", -11, 5);
        error("frame 1 x;", -11, 8);
        error("size 4 4;frame 1 0000", -11, 21);
        error("size 4 4;frame 1 0000 x;", -11, 22);
        error("stake;", -11, 5);
        error("stake 1;", -11, 7);
        error("stake 1 1 2;", -11, 11);
        error("stake 1 1 x;", -11, 10);
        error("stake 1 1 2 2", -11, 13);
    }

    private static void rangeErrors() {
        error("size 3 4;", -12, 5);
        error("size 13 4;", -12, 5);
        error("size 4 3;", -12, 7);
        error("size 12 11;", -12, 8);
        error("size 99999999999999999999999 4;", -12, 5);
        error("size 4294967300 4;", -12, 5);
        error("frame 10000 0", -12, 6);
        error("frame 1 00000000000 0", -12, 8);
        error("frame 1 0000000000000 0", -12, 8);
        error("size 4 4;frame 1 0000 000 0000 0000;", -12, 22);
        error("control 12 0;", -12, 8);
        error("control 0 8;", -12, 10);
        error("size 4 5;feature 4 0;", -12, 17);
        error("size 4 5;feature 3 5;", -12, 19);
        error("stake 10000 1;", -12, 6);
        error("stake 1 10000;", -12, 8);
        error("stake 1 1 99999 1;", -12, 10);
        String[] names = {"window", "range", "shift", "contrast", "tolerance", "scale", "gap", "surge"};
        int[] greatest = {2, 4, 3, 9, 9, 1000, 999, 9999};
        int[] least = {0, 1, 0, 0, 0, 1, 1, 0};
        for (int i = 0; i < 8; i++) {
            String start = "set " + names[i] + " ";
            GlacierCamera x = Check.loaded(start + greatest[i] + ";");
            Check.equal("greatest " + names[i], x.getSetting(i), greatest[i]);
            x = Check.loaded(start + least[i] + ";");
            Check.equal("least " + names[i], x.getSetting(i), least[i]);
            error(start + (greatest[i] + 1) + ";", -12, start.length());
            if (least[i] > 0) {
                error(start + "0;", -12, start.length());
            }
        }
    }

    private static void duplicateErrors() {
        error("set gap 1;set gap 1;", -13, 14);
        error("set gap 1;set shift 1;set gap", -13, 26);
        error("set surge 0;stake 1 1;set surge 10000;", -13, 26);
    }

    private static void orderErrors() {
        error("set gap 1;size 4 4;", -14, 10);
        error("size 4 4;size 4 4;", -14, 9);
        error("size 4 4;size", -14, 9);
        error("size 4 4;frame 5" + ROWS + ";frame 5", -14, 43);
        error("size 4 4;frame 5" + ROWS + ";control 1 1;frame 4" + ROWS + ";", -14, 55);
        error("stake 5 1 5 1;", -14, 10);
        error("stake 5 1 6 1 4 1;", -14, 14);
        GlacierCamera x = Check.loaded("stake 5 1;stake 4 1;");
        Check.equal("days of different stakes are free", x.stakeCount(), 2);
        Check.equal("first day 0", Check.load(x, "size 4 4;frame 0" + ROWS + ";"), 2);
    }

    private static void countErrors() {
        String six = frames(6);
        error(six + "frame", -15, six.length());
        error("control 0 0;control 0 0;control 0 0;control 0 0;control x", -15, 48);
        String feature = "feature 0 0;";
        error(feature + feature + feature + feature + feature + feature + feature, -15, 72);
        error("stake 0 0;stake 0 0;stake 0 0;stake;", -15, 30);
        error("size 4 4;frame 0" + ROWS + " 0000;", -15, 37);
        error("size 4 4;frame 0 0000 0000 0000;", -15, 31);
        error("size 4 4;frame 0 0000 ;", -15, 22);
        error("stake 0 0 1 0 2 0 3 0 4 0 5 0 6 0 7 0 8 0;", -15, 38);
        error("stake 0 0 1 0 2 0 3 0 4 0 5 0 6 0 7 0 8", -15, 38);
    }

    private static void firstListedErrorWins() {
        // No row at all: the semicolon is not allowed there, before it is one of a frame with too few rows.
        error("size 4 4;frame 0;", -11, 16);
        // A row too many that is too long besides.
        error("size 4 4;frame 0" + ROWS + " 00000;", -12, 37);
        // A ninth day that is too great, or not greater than the one before.
        error("stake 0 0 1 0 2 0 3 0 4 0 5 0 6 0 7 0 10000 0;", -12, 38);
        error("stake 0 0 1 0 2 0 3 0 4 0 5 0 6 0 7 0 7 0;", -14, 38);
        // The first token with an error, whatever follows.
        error("set gap 0 size ? ;", -12, 8);
        error("control 0 99 ?", -12, 10);
    }

    private static void settings() {
        GlacierCamera x = new GlacierCamera();
        Check.equal("getSetting(-1)", x.getSetting(-1), -2);
        Check.equal("getSetting(8)", x.getSetting(8), -2);
        Check.equal("getSetting(least)", x.getSetting(Integer.MIN_VALUE), -2);
        int[][] ranges = {{0, 2, 1}, {1, 4, 2}, {0, 3, 1}, {0, 9, 2}, {0, 9, 2}, {1, 1000, 100}, {1, 999, 10}, {0, 9999, 50}};
        for (int i = 0; i < 8; i++) {
            int undoable = x.undoCount();
            Check.equal("too small " + i, x.setSetting(i, ranges[i][0] - 1), -2);
            Check.equal("too great " + i, x.setSetting(i, ranges[i][1] + 1), -2);
            Check.equal("a wrong value is no change " + i, x.undoCount(), undoable);
            Check.equal("previous of the least " + i, x.setSetting(i, ranges[i][0]), ranges[i][2]);
            Check.equal("previous of the greatest " + i, x.setSetting(i, ranges[i][1]), ranges[i][0]);
            Check.equal("set " + i, x.getSetting(i), ranges[i][1]);
        }
        Check.equal("setSetting(8, 1)", x.setSetting(8, 1), -2);
        Check.equal("setSetting(-1, 1)", x.setSetting(-1, 1), -2);
    }
}
