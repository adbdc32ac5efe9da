/** Promises 48 to 57: readings of stakes and the melt. */
public final class StakeTest {
    private static final String TEXT = "stake 10 100 20 130 23 40 30 40;stake 0 0 20 5;stake 5 7;";

    public static void main(String[] args) {
        readings();
        adding();
        removing();
        drilling();
        totals();
        melts();
        averages();
        warmest();
        Check.finish();
    }

    private static void readings() {
        GlacierCamera x = Check.loaded(TEXT);
        Check.equal("readingCount(0)", x.readingCount(0), 4);
        Check.equal("readingCount(2)", x.readingCount(2), 1);
        Check.equal("readingDay(0, 0)", x.readingDay(0, 0), 10);
        Check.equal("readingDay(0, 3)", x.readingDay(0, 3), 30);
        Check.equal("readingLength(0, 1)", x.readingLength(0, 1), 130);
        for (int stake : new int[] {-1, 3, Integer.MAX_VALUE}) {
            Check.outOfBounds("readingCount " + stake, () -> x.readingCount(stake));
            Check.outOfBounds("readingDay " + stake, () -> x.readingDay(stake, 0));
            Check.outOfBounds("readingLength " + stake, () -> x.readingLength(stake, 0));
            Check.outOfBounds("drillCount " + stake, () -> x.drillCount(stake));
            Check.outOfBounds("meltTo " + stake, () -> x.meltTo(stake, 5));
            Check.outOfBounds("melt " + stake, () -> x.melt(stake, 9, 5));
            Check.outOfBounds("warmestInterval " + stake, () -> x.warmestInterval(stake));
        }
        Check.outOfBounds("readingDay(0, 4)", () -> x.readingDay(0, 4));
        Check.outOfBounds("readingDay(0, -1)", () -> x.readingDay(0, -1));
        Check.outOfBounds("readingLength(2, 1)", () -> x.readingLength(2, 1));
        Check.outOfBounds("readingLength(2, -1)", () -> x.readingLength(2, -1));
    }

    private static void adding() {
        GlacierCamera x = Check.loaded(TEXT);
        Check.equal("in the middle", x.addReading(1, 15, 3), 3);
        Check.equal("its place", x.readingDay(1, 1), 15);
        Check.equal("its length", x.readingLength(1, 1), 3);
        Check.equal("at the end", x.addReading(1, 9999, 9999), 4);
        Check.equal("at the start", x.addReading(2, 0, 0), 2);
        Check.equal("first day", x.readingDay(2, 0), 0);
        Check.equal("no stake 3", x.addReading(3, 1, 1), -1);
        Check.equal("no stake -1, checked first", x.addReading(-1, -1, -1), -1);
        Check.equal("day -1", x.addReading(0, -1, 1), -2);
        Check.equal("day 10000", x.addReading(0, 10000, 1), -2);
        Check.equal("length -1", x.addReading(0, 1, -1), -2);
        Check.equal("length 10000", x.addReading(0, 1, 10000), -2);
        Check.equal("day taken", x.addReading(0, 20, 1), -2);
        Check.equal("three changes", x.undoCount(), 3);
        for (int i = 0; i < 4; i++) {
            Check.equal("reading " + (5 + i), x.addReading(0, i, i), 5 + i);
        }
        Check.equal("ninth", x.addReading(0, 50, 1), -3);
        Check.equal("ninth on a taken day", x.addReading(0, 20, 1), -2);
        Check.equal("still eight", x.readingCount(0), 8);
        Check.equal("last day", x.readingDay(0, 7), 30);
    }

    private static void removing() {
        GlacierCamera x = Check.loaded(TEXT);
        Check.equal("no such day", x.removeReading(0, 11), -1);
        Check.equal("no stake 3", x.removeReading(3, 10), -1);
        Check.equal("no stake -1", x.removeReading(-1, 10), -1);
        Check.equal("day -1", x.removeReading(0, -1), -1);
        Check.equal("remove", x.removeReading(0, 20), 3);
        Check.equal("next day", x.readingDay(0, 1), 23);
        Check.equal("next length", x.readingLength(0, 1), 40);
        Check.equal("remove the only one", x.removeReading(2, 5), 0);
        Check.equal("readingCount", x.readingCount(2), 0);
        Check.equal("meltTo without readings", x.meltTo(2, 5), -1);
        Check.equal("drillCount without readings", x.drillCount(2), 0);
        Check.equal("warmestInterval without readings", x.warmestInterval(2), -1);
        Check.equal("add to none", x.addReading(2, 6, 6), 1);
    }

    private static void drilling() {
        GlacierCamera x = Check.loaded(TEXT);
        Check.equal("drillCount(0)", x.drillCount(0), 1);
        Check.equal("drillCount(1)", x.drillCount(1), 0);
        Check.equal("drillCount(2)", x.drillCount(2), 0);
        x.addReading(0, 40, 39);
        Check.equal("drilled twice", x.drillCount(0), 2);
        GlacierCamera y = Check.loaded("stake 0 9 1 8 2 8 3 7;");
        Check.equal("in the first and the last interval", y.drillCount(0), 2);
    }

    private static void totals() {
        GlacierCamera x = Check.loaded(TEXT);
        int[][] due = {{9, -1}, {10, 0}, {11, 300}, {20, 3000}, {21, 4333}, {22, 5666}, {23, 7000}, {26, 7000}, {30, 7000},
            {31, -1}, {Integer.MIN_VALUE, -1}, {Integer.MAX_VALUE, -1}};
        for (int[] pair : due) {
            Check.equal("meltTo(0, " + pair[0] + ")", x.meltTo(0, pair[0]), pair[1]);
        }
        Check.equal("meltTo(1, 1)", x.meltTo(1, 1), 25);
        Check.equal("single reading", x.meltTo(2, 5), 0);
        Check.equal("beside it", x.meltTo(2, 6), -1);
        GlacierCamera y = Check.loaded("stake 0 0 9999 9999;stake 0 9999 1 0 2 9999 3 0 4 9999 5 0 6 9999 7 9998;");
        Check.equal("long and great", y.meltTo(0, 9998), 999800);
        Check.equal("eight readings", y.meltTo(1, 7), 3999500);
        GlacierCamera z = Check.loaded("stake 0 0 9998 9999;");
        Check.equal("rounded down", z.meltTo(0, 9997), 999799);
    }

    private static void melts() {
        GlacierCamera x = Check.loaded(TEXT);
        Check.equal("melt(0, 10, 30)", x.melt(0, 10, 30), 7000);
        Check.equal("melt(0, 21, 22)", x.melt(0, 21, 22), 1333);
        Check.equal("melt(0, 15, 15)", x.melt(0, 15, 15), 0);
        Check.equal("melt(0, 20, 10)", x.melt(0, 20, 10), -2);
        Check.equal("melt(0, 50, 40)", x.melt(0, 50, 40), -2);
        Check.equal("melt(0, 9, 20)", x.melt(0, 9, 20), -1);
        Check.equal("melt(0, 20, 31)", x.melt(0, 20, 31), -1);
        Check.equal("melt(0, extremes)", x.melt(0, Integer.MIN_VALUE, Integer.MAX_VALUE), -1);
    }

    private static void averages() {
        GlacierCamera x = Check.loaded(TEXT);
        Check.equal("two stakes", x.meanMelt(10, 20), (3000 + 250) / 2);
        Check.equal("one stake", x.meanMelt(0, 20), 500);
        Check.equal("rounded down", x.meanMelt(10, 11), (300 + 25) / 2);
        Check.equal("three stakes", x.meanMelt(5, 5), 0);
        Check.equal("none", x.meanMelt(0, 40), -1);
        Check.equal("from after to", x.meanMelt(50, 40), -2);
        Check.equal("from after to without stakes", new GlacierCamera().meanMelt(1, 0), -2);
        Check.equal("without stakes", new GlacierCamera().meanMelt(0, 1), -1);
    }

    private static void warmest() {
        GlacierCamera x = Check.loaded("stake 0 0 3 10 6 20 9 31;stake 0 0 3 10 9 30;stake 0 5 1 5 2 0;");
        Check.equal("a little faster", x.warmestInterval(0), 2);
        Check.equal("tie, lower index", x.warmestInterval(1), 0);
        Check.equal("no melt at all", x.warmestInterval(2), 0);
        GlacierCamera y = Check.loaded("stake 0 0 7 9998 15 9999;stake 0 0 5000 4999 9999 9997;stake 9 9;");
        Check.equal("much faster first", y.warmestInterval(0), 0);
        Check.equal("4998 of 4999 days over 4999 of 5000", y.warmestInterval(1), 0);
        Check.equal("no intervals", y.warmestInterval(2), -1);
        GlacierCamera z = Check.loaded("stake 0 0 4999 4998 9999 9997;");
        Check.equal("4999 of 5000 days over 4998 of 4999", z.warmestInterval(0), 1);
    }
}
