/** Promises 58 and 59: each kind of change is undone, the ten latest are kept. */
public final class UndoTest {
    private static final String TEXT = "size 4 4;frame 1 0120 0340 0560 0780;frame 4 9000 0000 0000 0000;"
        + "frame 6 0008 0000 0000 0000;feature 1 1;stake 1 10 5 30;set window 0;";

    public static void main(String[] args) {
        everyKind();
        framesInTurn();
        tenLatest();
        sameValues();
        failuresAreNoChanges();
        Check.finish();
    }

    private static void everyKind() {
        GlacierCamera x = Check.loaded(TEXT);
        Check.equal("setSetting", x.setSetting(GlacierCamera.SCALE, 7), 100);
        Check.equal("setPixel", x.setPixel(0, 1, 0, 5), true);
        Check.equal("moveFeature", x.moveFeature(0, 2, 3), true);
        Check.equal("addReading", x.addReading(0, 3, 99), 3);
        Check.equal("removeReading", x.removeReading(0, 1), 2);
        Check.equal("removeFrame", x.removeFrame(0), 2);
        Check.equal("undoCount", x.undoCount(), 6);
        Check.equal("undo removeFrame", x.undo(), 5);
        Check.equal("frame is back", x.frameDay(0), 1);
        Check.equal("with its changed pixel", x.pixel(0, 1, 0), 5);
        Check.equal("next frame", x.frameDay(1), 4);
        Check.equal("undo removeReading", x.undo(), 4);
        Check.equal("reading is back", x.readingDay(0, 0), 1);
        Check.equal("with its length", x.readingLength(0, 0), 10);
        Check.equal("other length", x.readingLength(0, 1), 99);
        Check.equal("undo addReading", x.undo(), 3);
        Check.equal("readingCount", x.readingCount(0), 2);
        Check.equal("later reading", x.readingLength(0, 1), 30);
        Check.equal("undo moveFeature", x.undo(), 2);
        Check.equal("column is back", x.trackX(0, 0), 1);
        Check.equal("row is back", x.trackY(0, 0), 1);
        Check.equal("undo setPixel", x.undo(), 1);
        Check.equal("pixel is back", x.pixel(0, 1, 0), 1);
        Check.equal("undo setSetting", x.undo(), 0);
        Check.equal("setting is back", x.getSetting(GlacierCamera.SCALE), 100);
        Check.equal("nothing left", x.undo(), -1);
        Check.equal("undoCount at the end", x.undoCount(), 0);
    }

    private static void framesInTurn() {
        GlacierCamera x = Check.loaded(TEXT);
        x.removeFrame(1);
        x.removeFrame(0);
        x.setPixel(0, 0, 0, 6);
        x.removeFrame(0);
        Check.equal("no frames", x.frameCount(), 0);
        x.undo();
        Check.equal("last removed comes back first", x.frameDay(0), 6);
        Check.equal("changed pixel", x.pixel(0, 0, 0), 6);
        x.undo();
        Check.equal("pixel undone", x.pixel(0, 0, 0), 0);
        x.undo();
        Check.equal("first frame is back", x.frameDay(0), 1);
        Check.equal("second frame still missing", x.frameDay(1), 6);
        x.undo();
        Check.equal("second frame is back", x.frameDay(1), 4);
        Check.equal("its pixel", x.pixel(1, 0, 0), 9);
        Check.equal("third frame", x.frameDay(2), 6);
    }

    private static void tenLatest() {
        GlacierCamera x = Check.loaded(TEXT);
        for (int i = 1; i <= 13; i++) {
            x.setSetting(GlacierCamera.GAP, 100 + i);
            Check.equal("undoCount " + i, x.undoCount(), Math.min(i, 10));
        }
        for (int i = 9; i >= 0; i--) {
            Check.equal("undo to " + i, x.undo(), i);
            Check.equal("gap at " + i, x.getSetting(GlacierCamera.GAP), 103 + i);
        }
        Check.equal("the three first are not kept", x.undo(), -1);
        Check.equal("gap stays", x.getSetting(GlacierCamera.GAP), 103);
        x.setSetting(GlacierCamera.GAP, 5);
        Check.equal("a new change is kept", x.undoCount(), 1);
        Check.equal("and undone", x.undo(), 0);
        Check.equal("gap again", x.getSetting(GlacierCamera.GAP), 103);
        // An undo makes room for a change without pushing out the oldest one.
        for (int i = 0; i < 10; i++) {
            x.setSetting(GlacierCamera.SURGE, i);
        }
        x.undo();
        x.setSetting(GlacierCamera.SURGE, 77);
        Check.equal("ten again", x.undoCount(), 10);
        for (int i = 0; i < 10; i++) {
            x.undo();
        }
        Check.equal("surge is initial", x.getSetting(GlacierCamera.SURGE), 50);
    }

    private static void sameValues() {
        GlacierCamera x = Check.loaded(TEXT);
        x.setSetting(GlacierCamera.GAP, 10);
        x.setPixel(0, 0, 0, 0);
        x.moveFeature(0, 1, 1);
        Check.equal("setting what is set is a change", x.undoCount(), 3);
        Check.equal("undo of it", x.undo(), 2);
    }

    private static void failuresAreNoChanges() {
        GlacierCamera x = Check.loaded(TEXT);
        x.setSetting(GlacierCamera.GAP, 0);
        x.setPixel(0, 0, 0, 10);
        x.removeFrame(3);
        x.moveFeature(1, 0, 0);
        x.addReading(0, 5, 1);
        x.removeReading(0, 2);
        Check.load(x, "size");
        Check.equal("no change", x.undoCount(), 0);
        x.setSetting(GlacierCamera.GAP, 1);
        Check.equal("load", Check.load(x, TEXT), 7);
        Check.equal("after load", x.undoCount(), 0);
    }
}
