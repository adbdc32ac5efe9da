import java.util.function.Supplier;

/** A call that the document refuses: its answer, and that nothing has changed behind it. */
final class Refusal {
    private static final String TEXT = "size 4 4;frame 3 0120 0900 0000 0000;frame 7 0000 0070 0500 0008;"
        + "frame 9 1111 1111 1111 1111;control 1 1;feature 1 1;feature 3 2;stake 2 10 5 30 9 4;stake 4 4;set window 0;set gap 5;";

    private Refusal() {
    }

    interface Use {
        Object on(GlacierCamera camera);
    }

    /** Three frames, the last one unusable, two features, two stakes, and a change to undo. */
    static GlacierCamera changed() {
        GlacierCamera camera = Check.loaded(TEXT);
        camera.setSetting(GlacierCamera.SURGE, 7);
        return camera;
    }

    /** The same, with the position of an error and 20 bytes in the buffer. */
    static GlacierCamera prepared() {
        GlacierCamera camera = changed();
        Check.load(camera, "size ?");
        Check.feed(camera, "set gap 8;");
        return camera;
    }

    static void refused(String what, Use call, Object due) {
        refused(what, Refusal::prepared, call, due);
    }

    static void outOfBounds(String what, Use call) {
        refused(what, Refusal::prepared, call, "throws.IndexOutOfBoundsException");
    }

    /** Compares an object on which the call was made with a twin on which it was not. */
    static void refused(String what, Supplier<GlacierCamera> maker, Use call, Object due) {
        GlacierCamera used = maker.get();
        GlacierCamera twin = maker.get();
        Check.equal(what, Check.answerOf(() -> call.on(used)), due);
        Check.equal("errorPosition after " + what, used.errorPosition(), twin.errorPosition());
        Check.equal("state after " + what, State.andPast(used), State.andPast(twin));
    }
}
