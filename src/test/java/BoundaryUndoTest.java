/** Promises 58 and 59: the boundary cases of changes, of undoing them, and of how many are kept. */
public final class BoundaryUndoTest {
    private static final int NOT_FOUND = -1;

    public static void main(String[] args) {
        Cases.run(BoundaryUndoTest.class);
    }

    private static GlacierCamera frames(int count) {
        StringBuilder text = new StringBuilder("size 4 4;");
        for (int i = 0; i < count; i++) {
            text.append(Scenes.frame(4, 4, i, 1, 1, 3 + i));
        }
        return Check.loaded(text.toString());
    }

    private static void days(String what, GlacierCamera x, int... due) {
        Check.equal(what + ": frames", x.frameCount(), due.length);
        for (int i = 0; i < due.length; i++) {
            Check.equal(what + ": day of " + i, x.frameDay(i), due[i]);
            Check.equal(what + ": pixel of " + i, x.pixel(i, 1, 1), 3 + due[i]);
        }
    }

    @Says("NOT_FOUND if there is none to undo")
    static void promise58_nothingToUndo() {
        Refusal.refused("new object", GlacierCamera::new, GlacierCamera::undo, NOT_FOUND);
        Refusal.refused("after load", () -> Check.loaded("size 4 4;set gap 5;" + Scenes.frame(4, 4, 1, 1, 1, 9)),
            GlacierCamera::undo, NOT_FOUND);
        GlacierCamera x = new GlacierCamera();
        x.setSetting(GlacierCamera.GAP, 5);
        Check.equal("the only change", x.undo(), 0);
        Check.equal("and no more", x.undo(), NOT_FOUND);
        Check.equal("and no more again", x.undo(), NOT_FOUND);
        Check.equal("undoCount", x.undoCount(), 0);
    }

    /** Makes a change on an object with another change before it, and undoes it. */
    private static void undone(String what, Refusal.Use change, Object due) {
        GlacierCamera x = Refusal.changed();
        Check.equal(what, Check.answerOf(() -> change.on(x)), due);
        Check.equal(what + ": undoCount", x.undoCount(), 2);
        Check.equal(what + ": changed", State.now(x).equals(State.now(Refusal.changed())), false);
        Check.equal(what + ": undo", x.undo(), 1);
        Check.equal(what + ": undone", State.andPast(x), State.andPast(Refusal.changed()));
    }

    @Says("The methods setSetting, setPixel, removeFrame, moveFeature, addReading and removeReading make changes")
    static void promise58_eachKindOfChange() {
        for (int i = 0; i < 8; i++) {
            int setting = i;
            int previous = Refusal.changed().getSetting(i);
            undone("setSetting " + i, x -> x.setSetting(setting, previous == 1 ? 2 : 1), previous);
        }
        undone("setPixel", x -> x.setPixel(1, 2, 3, 9), true);
        undone("setPixel of the last frame", x -> x.setPixel(2, 3, 3, 2), true);
        undone("removeFrame of the first", x -> x.removeFrame(0), 2);
        undone("removeFrame between", x -> x.removeFrame(1), 2);
        undone("removeFrame of the last", x -> x.removeFrame(2), 2);
        undone("moveFeature", x -> x.moveFeature(0, 2, 3), true);
        undone("moveFeature of the last", x -> x.moveFeature(1, 0, 0), true);
        undone("addReading before", x -> x.addReading(0, 0, 1), 4);
        undone("addReading between", x -> x.addReading(0, 6, 1), 4);
        undone("addReading behind", x -> x.addReading(1, 9999, 9999), 2);
        undone("removeReading of the first", x -> x.removeReading(0, 2), 2);
        undone("removeReading between", x -> x.removeReading(0, 5), 2);
        undone("removeReading of the last", x -> x.removeReading(0, 9), 2);
        undone("removeReading of the only one", x -> x.removeReading(1, 4), 0);
    }

    @Says("At most the 10 latest changes are kept")
    static void promise58_tenChangesAndAnEleventh() {
        GlacierCamera ten = new GlacierCamera();
        for (int i = 1; i <= 10; i++) {
            ten.setSetting(GlacierCamera.GAP, 100 + i);
        }
        for (int i = 9; i >= 0; i--) {
            Check.equal("undo of ten", ten.undo(), i);
        }
        Check.equal("the first value", ten.getSetting(GlacierCamera.GAP), 10);
        Check.equal("undo of none", ten.undo(), NOT_FOUND);
        GlacierCamera eleven = new GlacierCamera();
        for (int i = 1; i <= 11; i++) {
            eleven.setSetting(GlacierCamera.GAP, 100 + i);
        }
        for (int i = 9; i >= 0; i--) {
            Check.equal("undo of eleven", eleven.undo(), i);
        }
        Check.equal("the second value", eleven.getSetting(GlacierCamera.GAP), 101);
        Check.equal("undo of none", eleven.undo(), NOT_FOUND);
        Check.equal("the second value stays", eleven.getSetting(GlacierCamera.GAP), 101);
    }

    @Says("At most the 10 latest changes are kept")
    static void promise58_manyMoreThanTenChanges() {
        GlacierCamera x = new GlacierCamera();
        for (int i = 1; i <= 400; i++) {
            x.setSetting(GlacierCamera.GAP, i);
        }
        for (int i = 9; i >= 0; i--) {
            Check.equal("undo", x.undo(), i);
            Check.equal("gap", x.getSetting(GlacierCamera.GAP), 390 + i);
        }
        Check.equal("undo of none", x.undo(), NOT_FOUND);
    }

    @Says("At most the 10 latest changes are kept")
    static void promise58_undoMakesRoomForOneChange() {
        GlacierCamera x = new GlacierCamera();
        for (int i = 1; i <= 10; i++) {
            x.setSetting(GlacierCamera.GAP, 100 + i);
        }
        Check.equal("undo", x.undo(), 9);
        x.setSetting(GlacierCamera.GAP, 500);
        Check.equal("ten again", x.undoCount(), 10);
        for (int i = 0; i < 10; i++) {
            x.undo();
        }
        Check.equal("the first value", x.getSetting(GlacierCamera.GAP), 10);
    }

    @Says("Undoes the latest change that is kept")
    static void promise58_latestChangeFirst() {
        GlacierCamera x = new GlacierCamera();
        x.setSetting(GlacierCamera.GAP, 5);
        x.setSetting(GlacierCamera.SURGE, 6);
        Check.equal("undo", x.undo(), 1);
        Check.equal("earlier change stays", x.getSetting(GlacierCamera.GAP), 5);
        Check.equal("later change is undone", x.getSetting(GlacierCamera.SURGE), 50);
        Check.equal("undo", x.undo(), 0);
        Check.equal("earlier change is undone", x.getSetting(GlacierCamera.GAP), 10);
    }

    @Says("Undoes the latest change that is kept")
    static void promise58_undoIsNoChange() {
        GlacierCamera x = new GlacierCamera();
        x.setSetting(GlacierCamera.GAP, 5);
        x.undo();
        Check.equal("undo of undo", x.undo(), NOT_FOUND);
        Check.equal("gap", x.getSetting(GlacierCamera.GAP), 10);
    }

    @Says("Undoes the latest change that is kept")
    static void promise58_allSixFramesRemovedInEachOrder() {
        for (int index = 0; index < 6; index++) {
            GlacierCamera x = frames(6);
            for (int i = 0; i < 6; i++) {
                x.removeFrame(Math.min(index, 5 - i));
            }
            days("all removed", x);
            for (int i = 5; i >= 0; i--) {
                Check.equal("undo", x.undo(), i);
            }
            days("all back", x, 0, 1, 2, 3, 4, 5);
        }
    }

    @Says("At most the 10 latest changes are kept")
    static void promise58_removedFrameThatIsNoLongerKept() {
        GlacierCamera x = frames(4);
        x.removeFrame(1);
        for (int i = 0; i < 9; i++) {
            x.setSetting(GlacierCamera.SURGE, i);
        }
        x.removeFrame(0);
        days("two removed", x, 2, 3);
        Check.equal("undo of the second one", x.undo(), 9);
        days("the second one is back", x, 0, 2, 3);
        for (int i = 8; i >= 0; i--) {
            x.undo();
        }
        Check.equal("undo of the first one", x.undo(), NOT_FOUND);
        days("the first one is gone", x, 0, 2, 3);
        x.removeFrame(2);
        x.removeFrame(0);
        x.undo();
        x.undo();
        days("others come back", x, 0, 2, 3);
    }

    @Says("Undoes the latest change that is kept")
    static void promise58_pixelOfAFrameWhoseIndexHasDecreased() {
        GlacierCamera x = frames(3);
        x.setPixel(2, 1, 1, 9);
        x.removeFrame(0);
        x.setPixel(1, 1, 1, 0);
        Check.equal("frame 2 is frame 1", x.pixel(1, 1, 1), 0);
        x.undo();
        Check.equal("undone there", x.pixel(1, 1, 1), 9);
        x.undo();
        Check.equal("frame 2 again", x.pixel(2, 1, 1), 9);
        x.undo();
        days("all undone", x, 0, 1, 2);
    }

    @Says("Undoes the latest change that is kept")
    static void promise58_readingsOfAFullStake() {
        GlacierCamera x = Check.loaded("stake 10 0 20 1 30 2 40 3 50 4 60 5 70 6 80 7;");
        GlacierCamera before = Check.loaded("stake 10 0 20 1 30 2 40 3 50 4 60 5 70 6 80 7;");
        x.removeReading(0, 80);
        x.addReading(0, 5, 9);
        x.removeReading(0, 40);
        x.addReading(0, 40, 8);
        Check.equal("eight", x.readingCount(0), 8);
        for (int i = 3; i >= 0; i--) {
            Check.equal("undo", x.undo(), i);
        }
        Check.equal("all undone", State.andPast(x), State.andPast(before));
    }

    @Says("Undoes the latest change that is kept")
    static void promise58_afterALoadWithAnError() {
        GlacierCamera x = new GlacierCamera();
        x.setSetting(GlacierCamera.GAP, 5);
        Check.load(x, "set gap 7;?");
        Check.equal("undo", x.undo(), 0);
        Check.equal("gap", x.getSetting(GlacierCamera.GAP), 10);
    }

    @Says("Returns 0 to 10")
    static void promise59_from0To10() {
        GlacierCamera x = new GlacierCamera();
        for (int i = 0; i <= 12; i++) {
            Check.equal("after " + i, x.undoCount(), Math.min(i, 10));
            x.setSetting(GlacierCamera.GAP, 5);
        }
        for (int i = 9; i >= 0; i--) {
            x.undo();
            Check.equal("after undo", x.undoCount(), i);
        }
        x.undo();
        Check.equal("after an undo of none", x.undoCount(), 0);
    }

    @Says("Setting a value that is already set is also a change")
    static void promise59_valuesThatAreAlreadySet() {
        GlacierCamera x = Refusal.changed();
        x.setSetting(GlacierCamera.SURGE, 7);
        Check.equal("setting", x.undoCount(), 2);
        x.setPixel(0, 0, 0, 0);
        Check.equal("pixel", x.undoCount(), 3);
        x.moveFeature(0, 1, 1);
        Check.equal("feature", x.undoCount(), 4);
        for (int i = 3; i >= 1; i--) {
            Check.equal("undo", x.undo(), i);
        }
        Check.equal("state", State.andPast(x), State.andPast(Refusal.changed()));
    }

    @Says("A call that returns an error code or false or throws an exception changes nothing")
    static void promise59_refusedCallsAreNoChanges() {
        GlacierCamera x = Refusal.prepared();
        int before = x.undoCount();
        x.setSetting(8, 1);
        x.setPixel(0, 0, 0, 10);
        x.removeFrame(3);
        x.moveFeature(2, 0, 0);
        x.addReading(0, 5, 1);
        x.removeReading(0, 6);
        Check.outOfBounds("frameDay", () -> x.frameDay(3));
        Check.illegalState("shiftX", () -> x.shiftX(2));
        Check.equal("undoCount", x.undoCount(), before);
    }

    @Says("A call that returns an error code or false or throws an exception changes nothing")
    static void promise59_questionsAreNoChanges() {
        Refusal.refused("questions", x -> {
            x.closedLoops(0);
            x.leastTolerance(0);
            x.meanSpeedWithScale(0, 1000);
            x.fastestFeature();
            x.positionX(0, 5);
            x.longestGap();
            x.melt(0, 2, 5);
            x.warmestInterval(0);
            x.registered(0, 1, 1);
            x.changedPixels(0, 1, 1);
            x.snowLine(0, 1);
            x.strain(0, 1);
            x.direction(0);
            return x.undoCount();
        }, 1);
    }
}
