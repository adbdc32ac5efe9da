/** Promises 13 to 19: frames and pixels. */
public final class FrameTest {
    private static final String TEXT = "size 4 4;frame 3 0123 4567 8901 2345;frame 7 5555 5555 5555 5556;"
        + "frame 9999 1111 1111 1131 1111;";

    public static void main(String[] args) {
        days();
        pixels();
        settingPixels();
        removing();
        usability();
        Check.finish();
    }

    private static void days() {
        GlacierCamera x = Check.loaded(TEXT);
        Check.equal("frameDay(0)", x.frameDay(0), 3);
        Check.equal("frameDay(2)", x.frameDay(2), 9999);
        Check.outOfBounds("frameDay(3)", () -> x.frameDay(3));
        Check.outOfBounds("frameDay(-1)", () -> x.frameDay(-1));
    }

    private static void pixels() {
        GlacierCamera x = Check.loaded(TEXT);
        Check.equal("pixel(0, 0, 0)", x.pixel(0, 0, 0), 0);
        Check.equal("pixel(0, 1, 2)", x.pixel(0, 1, 2), 9);
        Check.equal("pixel(0, 2, 1)", x.pixel(0, 2, 1), 6);
        Check.equal("pixel(1, 3, 3)", x.pixel(1, 3, 3), 6);
        Check.outOfBounds("pixel(3, 0, 0)", () -> x.pixel(3, 0, 0));
        Check.outOfBounds("pixel(-1, 0, 0)", () -> x.pixel(-1, 0, 0));
        Check.outOfBounds("pixel(0, 4, 0)", () -> x.pixel(0, 4, 0));
        Check.outOfBounds("pixel(0, 0, 4)", () -> x.pixel(0, 0, 4));
        Check.outOfBounds("pixel(0, -1, 0)", () -> x.pixel(0, -1, 0));
        Check.outOfBounds("pixel(0, 0, -1)", () -> x.pixel(0, 0, -1));
    }

    private static void settingPixels() {
        GlacierCamera x = Check.loaded(TEXT);
        Check.equal("setPixel", x.setPixel(1, 0, 3, 9), true);
        Check.equal("pixel", x.pixel(1, 0, 3), 9);
        Check.equal("other pixel", x.pixel(1, 3, 0), 5);
        Check.equal("other frame", x.pixel(0, 0, 3), 2);
        Check.equal("setPixel to 0", x.setPixel(0, 3, 3, 0), true);
        Check.equal("no frame 3", x.setPixel(3, 0, 0, 1), false);
        Check.equal("no frame -1", x.setPixel(-1, 0, 0, 1), false);
        Check.equal("x 4", x.setPixel(0, 4, 0, 1), false);
        Check.equal("x -1", x.setPixel(0, -1, 0, 1), false);
        Check.equal("y 4", x.setPixel(0, 0, 4, 1), false);
        Check.equal("y -1", x.setPixel(0, 0, -1, 1), false);
        Check.equal("brightness 10", x.setPixel(0, 0, 0, 10), false);
        Check.equal("brightness -1", x.setPixel(0, 0, 0, -1), false);
        Check.equal("two changes", x.undoCount(), 2);
        Check.equal("unchanged", x.pixel(0, 0, 0), 0);
    }

    private static void removing() {
        GlacierCamera x = Check.loaded(TEXT);
        Check.equal("removeFrame(3)", x.removeFrame(3), -1);
        Check.equal("removeFrame(-1)", x.removeFrame(-1), -1);
        Check.equal("no change", x.undoCount(), 0);
        Check.equal("removeFrame(1)", x.removeFrame(1), 2);
        Check.equal("later frame moves down", x.frameDay(1), 9999);
        Check.equal("with its pixels", x.pixel(1, 2, 2), 3);
        Check.outOfBounds("frameDay(2)", () -> x.frameDay(2));
        Check.equal("removeFrame(1) again", x.removeFrame(1), 1);
        Check.equal("removeFrame(0)", x.removeFrame(0), 0);
        Check.equal("frameCount", x.frameCount(), 0);
        Check.equal("referenceFrame", x.referenceFrame(), -1);
        Check.equal("removeFrame(0) of none", x.removeFrame(0), -1);
    }

    private static void usability() {
        GlacierCamera x = Check.loaded(TEXT);
        Check.equal("contrast(0)", x.contrast(0), 9);
        Check.equal("contrast(1)", x.contrast(1), 1);
        Check.equal("contrast(2)", x.contrast(2), 2);
        Check.outOfBounds("contrast(3)", () -> x.contrast(3));
        Check.outOfBounds("contrast(-1)", () -> x.contrast(-1));
        Check.equal("isUsable(0)", x.isUsable(0), true);
        Check.equal("isUsable(1)", x.isUsable(1), false);
        Check.equal("isUsable(2) with contrast 2", x.isUsable(2), true);
        Check.outOfBounds("isUsable(3)", () -> x.isUsable(3));
        Check.outOfBounds("isUsable(-1)", () -> x.isUsable(-1));
        Check.equal("referenceFrame", x.referenceFrame(), 0);
        x.removeFrame(0);
        Check.equal("referenceFrame skips an unusable frame", x.referenceFrame(), 1);
        x.setSetting(GlacierCamera.CONTRAST, 3);
        Check.equal("no referenceFrame", x.referenceFrame(), -1);
        x.setSetting(GlacierCamera.CONTRAST, 0);
        Check.equal("referenceFrame at contrast 0", x.referenceFrame(), 0);
        Check.equal("isUsable(0) at contrast 0", x.isUsable(0), true);
        // Of a narrow image only its own pixels count, not what an earlier, wider one left.
        Check.load(x, "frame 1 000000000009 000000000000 000000000000 000000000000 000000000000 000000000000 "
            + "000000000000 900000000000;");
        Check.equal("contrast of the wide frame", x.contrast(0), 9);
        Check.load(x, "size 4 4;frame 1 1111 1111 1111 1111;");
        Check.load(x, "size 4 4;frame 1 1111 1111 1111 1111;");
        Check.equal("contrast of the narrow frame", x.contrast(0), 0);
    }
}
