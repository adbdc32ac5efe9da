/** All of an object's state that the face shows, as a text, but for the position of an error. */
final class State {
    private State() {
    }

    /** The state now, after each undo, and what the input buffer holds. Undoes all and empties the buffer. */
    static String andPast(GlacierCamera camera) {
        StringBuilder text = new StringBuilder(now(camera));
        int changes = camera.undoCount();
        for (int i = 0; i < changes; i++) {
            text.append("\nundo leaves ").append(camera.undo()).append(": ").append(now(camera));
        }
        text.append("\nlast undo answers ").append(camera.undo());
        int bytes = camera.feed(0x20202020, 0x20202020, 0x20202020, 0x20202020, 0x20202020);
        text.append("\nfeed answers ").append(bytes).append(", load ").append(camera.load(bytes));
        text.append(": ").append(now(camera));
        return text.toString();
    }

    static String now(GlacierCamera camera) {
        StringBuilder text = new StringBuilder("size ").append(camera.width()).append(' ').append(camera.height());
        text.append(", controls ").append(camera.controlCount()).append(", settings");
        for (int i = 0; i < 8; i++) {
            text.append(' ').append(camera.getSetting(i));
        }
        int frames = camera.frameCount();
        for (int i = 0; i < frames; i++) {
            addFrame(text, camera, i);
        }
        int features = camera.featureCount();
        for (int i = 0; i < features; i++) {
            text.append("; feature");
            for (int j = 0; j < frames; j++) {
                text.append(' ').append(camera.trackX(i, j)).append(',').append(camera.trackY(i, j));
            }
        }
        int stakes = camera.stakeCount();
        for (int i = 0; i < stakes; i++) {
            addStake(text, camera, i);
        }
        return text.toString();
    }

    private static void addFrame(StringBuilder text, GlacierCamera camera, int frame) {
        text.append("; frame ").append(camera.frameDay(frame)).append(camera.isOriented(frame) ? " oriented" : "");
        int width = camera.width();
        int height = camera.height();
        for (int y = 0; y < height; y++) {
            text.append(' ');
            for (int x = 0; x < width; x++) {
                text.append(camera.pixel(frame, x, y));
            }
        }
    }

    private static void addStake(StringBuilder text, GlacierCamera camera, int stake) {
        text.append("; stake");
        int readings = camera.readingCount(stake);
        for (int i = 0; i < readings; i++) {
            text.append(' ').append(camera.readingDay(stake, i)).append(':').append(camera.readingLength(stake, i));
        }
    }
}
