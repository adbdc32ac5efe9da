/** The three examples of the document, call for call. */
public final class ExamplesTest {
    public static void main(String[] args) {
        imagesAndTracks();
        stakes();
        duplicateSetting();
        Check.finish();
    }

    private static void imagesAndTracks() {
        GlacierCamera x = new GlacierCamera();
        Check.equal("feed 1", x.feed(1936292453, 540287028, 997418356, 544696686, 1685026592), 20);
        Check.equal("feed 2", x.feed(809199218, 1634559264, 807415856, 808460336, 959459360), 40);
        Check.equal("feed 3", x.feed(808464432, 540028976, 809199218, 1634559264, 857747504), 60);
        Check.equal("feed 4", x.feed(808460336, 809054240, 808464432, 540028976, 809199205), 80);
        Check.equal("feed 5", x.feed(1635022194, 1696608544, 825958432, 538976288, 538976288), 100);
        Check.equal("load(90)", x.load(90), 5);
        Check.equal("referenceFrame()", x.referenceFrame(), 0);
        Check.equal("match(0, 1, 1, 1)", x.match(0, 1, 1, 1), 33);
        Check.equal("trackX(0, 1)", x.trackX(0, 1), 2);
        Check.equal("speed(0, 0)", x.speed(0, 0), 33);
        Check.equal("positionX(0, 1)", x.positionX(0, 1), 133);
        Check.equal("direction(0)", x.direction(0), 0);
        Check.equal("setPixel(1, 2, 1, 0)", x.setPixel(1, 2, 1, 0), true);
        Check.equal("undo()", x.undo(), 0);
    }

    private static void stakes() {
        GlacierCamera x = new GlacierCamera();
        Check.equal("feed 1", x.feed(1937006955, 1696608288, 825237553, 807416624, 540160032), 20);
        Check.equal("feed 2", x.feed(893067296, 538976288, 538976288, 538976288, 538976288), 40);
        Check.equal("load(22)", x.load(22), 1);
        Check.equal("drillCount(0)", x.drillCount(0), 1);
        Check.equal("meltTo(0, 5)", x.meltTo(0, 5), 1000);
        Check.equal("meltTo(0, 15)", x.meltTo(0, 15), 2250);
        Check.equal("addReading(0, 15, 2)", x.addReading(0, 15, 2), 4);
        Check.equal("melt(0, 10, 20)", x.melt(0, 10, 20), 500);
    }

    private static void duplicateSetting() {
        GlacierCamera x = new GlacierCamera();
        Check.equal("feed", x.feed(1936028704, 1734438944, 825979749, 1948280673, 1881158203), 20);
        Check.equal("load(20)", x.load(20), -13);
        Check.equal("errorPosition()", x.errorPosition(), 14);
    }
}
