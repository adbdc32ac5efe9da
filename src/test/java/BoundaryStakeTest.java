/** Promises 48 to 57: the boundary cases of stakes, their readings and the melt. */
public final class BoundaryStakeTest {
    private static final int NOT_FOUND = -1, BAD_VALUE = -2, FULL = -3;
    private static final int[] NO_INDICES = {-1, Integer.MIN_VALUE, Integer.MAX_VALUE};
    private static final String EIGHT = "stake 10 0 20 1 30 2 40 3 50 4 60 5 70 6 80 7;";

    public static void main(String[] args) {
        Cases.run(BoundaryStakeTest.class);
    }

    /** One stake, from pairs of day and length. */
    private static GlacierCamera stake(int... readings) {
        StringBuilder text = new StringBuilder("stake");
        for (int value : readings) {
            text.append(' ').append(value);
        }
        return Check.loaded(text.append(';').toString());
    }

    /** A stake whose only reading was removed. */
    private static GlacierCamera bare() {
        GlacierCamera x = stake(5, 7);
        Check.equal("removeReading of the only one", x.removeReading(0, 5), 0);
        return x;
    }

    private static void readings(String what, GlacierCamera x, int... due) {
        Check.equal(what + ": readingCount", x.readingCount(0), due.length / 2);
        for (int i = 0; i < due.length / 2; i++) {
            Check.equal(what + ": readingDay " + i, x.readingDay(0, i), due[2 * i]);
            Check.equal(what + ": readingLength " + i, x.readingLength(0, i), due[2 * i + 1]);
        }
        Check.outOfBounds(what + ": day beyond the last", () -> x.readingDay(0, due.length / 2));
        Check.outOfBounds(what + ": length beyond the last", () -> x.readingLength(0, due.length / 2));
    }

    // Readings.

    @Says({"Returns 0 to 8", "A stake has at most 8 readings, indexed from 0"})
    static void promise48_readingsFrom0To8() {
        Check.equal("one", stake(5, 7).readingCount(0), 1);
        Check.equal("none", bare().readingCount(0), 0);
        GlacierCamera x = Check.loaded(EIGHT);
        Check.equal("eight", x.readingCount(0), 8);
        for (int i = 7; i >= 0; i--) {
            x.removeReading(0, 10 * i + 10);
            Check.equal("after removeReading", x.readingCount(0), i);
        }
    }

    @Says("Throws IndexOutOfBoundsException if stake is not a valid index")
    static void promise48_stakeOneOutsideThrows() {
        Check.equal("the last of two", Refusal.prepared().readingCount(1), 1);
        Refusal.outOfBounds("readingCount(2) of two", x -> x.readingCount(2));
        for (int stake : NO_INDICES) {
            Refusal.outOfBounds("readingCount(" + stake + ")", x -> x.readingCount(stake));
        }
        Check.outOfBounds("no stakes", () -> new GlacierCamera().readingCount(0));
        GlacierCamera three = Check.loaded("stake 1 1;stake 1 1;stake 1 1 2 2;");
        Check.equal("the last of three", three.readingCount(2), 2);
        Check.outOfBounds("beyond three", () -> three.readingCount(3));
    }

    @Says({"Throws IndexOutOfBoundsException if stake or reading is not a valid index", "each with a day (0 to 9999)"})
    static void promise49_firstAndLastReadingAndOneOutside() {
        readings("eight", Check.loaded(EIGHT), 10, 0, 20, 1, 30, 2, 40, 3, 50, 4, 60, 5, 70, 6, 80, 7);
        readings("least and greatest day", stake(0, 5, 9999, 6), 0, 5, 9999, 6);
        readings("none", bare());
        Refusal.outOfBounds("readingDay(0, 3) of three", x -> x.readingDay(0, 3));
        Refusal.outOfBounds("readingDay(1, 1) of one", x -> x.readingDay(1, 1));
        Refusal.outOfBounds("readingDay(2, 0) of two stakes", x -> x.readingDay(2, 0));
        for (int wrong : NO_INDICES) {
            Refusal.outOfBounds("readingDay(0, " + wrong + ")", x -> x.readingDay(0, wrong));
            Refusal.outOfBounds("readingDay(" + wrong + ", 0)", x -> x.readingDay(wrong, 0));
        }
        Check.outOfBounds("no stakes", () -> new GlacierCamera().readingDay(0, 0));
    }

    @Says({"Throws IndexOutOfBoundsException if stake or reading is not a valid index", "a length (0 to 9999 centimeters)"})
    static void promise50_firstAndLastReadingAndOneOutside() {
        readings("least and greatest length", stake(5, 0, 6, 9999), 5, 0, 6, 9999);
        Refusal.outOfBounds("readingLength(0, 3) of three", x -> x.readingLength(0, 3));
        Refusal.outOfBounds("readingLength(1, 1) of one", x -> x.readingLength(1, 1));
        Refusal.outOfBounds("readingLength(2, 0) of two stakes", x -> x.readingLength(2, 0));
        for (int wrong : NO_INDICES) {
            Refusal.outOfBounds("readingLength(0, " + wrong + ")", x -> x.readingLength(0, wrong));
            Refusal.outOfBounds("readingLength(" + wrong + ", 0)", x -> x.readingLength(wrong, 0));
        }
        Check.outOfBounds("no stakes", () -> new GlacierCamera().readingLength(0, 0));
    }

    // Adding.

    @Says({"Adds a reading to a stake, at its place in the order of days", "Returns the new number of readings"})
    static void promise51_beforeBetweenAndBehindTheReadings() {
        GlacierCamera before = stake(5, 50, 7, 70);
        Check.equal("before", before.addReading(0, 4, 40), 3);
        readings("before", before, 4, 40, 5, 50, 7, 70);
        GlacierCamera between = stake(5, 50, 7, 70);
        Check.equal("between", between.addReading(0, 6, 60), 3);
        readings("between", between, 5, 50, 6, 60, 7, 70);
        GlacierCamera behind = stake(5, 50, 7, 70);
        Check.equal("behind", behind.addReading(0, 8, 80), 3);
        readings("behind", behind, 5, 50, 7, 70, 8, 80);
        GlacierCamera bare = bare();
        Check.equal("without any", bare.addReading(0, 3, 30), 1);
        readings("without any", bare, 3, 30);
    }

    @Says("Adds a reading to a stake, at its place in the order of days")
    static void promise51_toTheLastStakeAlone() {
        GlacierCamera x = Check.loaded("stake 5 50;stake 5 51;stake 5 52;");
        Check.equal("last stake", x.addReading(2, 4, 40), 2);
        Check.equal("first stake", x.readingCount(0), 1);
        Check.equal("second stake", x.readingCount(1), 1);
        Check.equal("the new reading", x.readingLength(2, 0), 40);
    }

    @Says({"BAD_VALUE if day or length is out of range or the stake has a reading on that day", "0 to 9999"})
    static void promise51_dayFrom0To9999() {
        GlacierCamera x = stake(5, 50);
        Check.equal("day 0", x.addReading(0, 0, 1), 2);
        Check.equal("day 9999", x.addReading(0, 9999, 2), 3);
        readings("both", x, 0, 1, 5, 50, 9999, 2);
        Refusal.refused("day 10000", y -> y.addReading(0, 10000, 1), BAD_VALUE);
        for (int day : NO_INDICES) {
            Refusal.refused("day " + day, y -> y.addReading(0, day, 1), BAD_VALUE);
        }
    }

    @Says("BAD_VALUE if day or length is out of range or the stake has a reading on that day")
    static void promise51_lengthFrom0To9999() {
        GlacierCamera x = stake(5, 50);
        Check.equal("length 0", x.addReading(0, 6, 0), 2);
        Check.equal("length 9999", x.addReading(0, 7, 9999), 3);
        readings("both", x, 5, 50, 6, 0, 7, 9999);
        Refusal.refused("length 10000", y -> y.addReading(0, 6, 10000), BAD_VALUE);
        for (int length : NO_INDICES) {
            Refusal.refused("length " + length, y -> y.addReading(0, 6, length), BAD_VALUE);
        }
    }

    @Says({"the stake has a reading on that day", "the days ascend strictly"})
    static void promise51_dayOfAReadingAndTheDaysBeside() {
        for (int day : new int[] {2, 5, 9}) {
            Refusal.refused("day " + day + " again", x -> x.addReading(0, day, 1), BAD_VALUE);
        }
        GlacierCamera x = stake(2, 10, 5, 30, 9, 4);
        for (int day : new int[] {1, 3, 4, 6, 8}) {
            Check.equal("day " + day, x.addReading(0, day, 1) > 0, true);
        }
        Check.equal("readings", x.readingCount(0), 8);
        GlacierCamera other = Check.loaded("stake 2 10;stake 5 30;");
        Check.equal("day of another stake", other.addReading(0, 5, 1), 2);
    }

    @Says("FULL if the stake has 8 readings")
    static void promise51_eighthReadingAndNinth() {
        GlacierCamera x = Check.loaded(EIGHT.replace(" 80 7", ""));
        Check.equal("the eighth one", x.addReading(0, 15, 9), 8);
        Check.equal("the ninth one", x.addReading(0, 16, 9), FULL);
        Refusal.refused("a ninth one behind", () -> Check.loaded(EIGHT), y -> y.addReading(0, 81, 1), FULL);
        Refusal.refused("a ninth one before", () -> Check.loaded(EIGHT), y -> y.addReading(0, 9, 1), FULL);
        Refusal.refused("a ninth one between", () -> Check.loaded(EIGHT), y -> y.addReading(0, 45, 1), FULL);
        x.removeReading(0, 15);
        Check.equal("after removeReading", x.addReading(0, 16, 9), 8);
        GlacierCamera two = Check.loaded(EIGHT + "stake 1 1;");
        Check.equal("another stake", two.addReading(1, 2, 2), 2);
    }

    @Says("BAD_VALUE if day or length is out of range or the stake has a reading on that day")
    static void promise51_badValueBeforeFull() {
        Refusal.refused("taken day", () -> Check.loaded(EIGHT), x -> x.addReading(0, 80, 1), BAD_VALUE);
        Refusal.refused("wrong day", () -> Check.loaded(EIGHT), x -> x.addReading(0, 10000, 1), BAD_VALUE);
        Refusal.refused("wrong length", () -> Check.loaded(EIGHT), x -> x.addReading(0, 81, -1), BAD_VALUE);
    }

    @Says("NOT_FOUND if stake is not a valid index (checked first)")
    static void promise51_stakeOneOutsideBeforeBadValues() {
        Refusal.refused("stake 2 of two", x -> x.addReading(2, 6, 1), NOT_FOUND);
        Refusal.refused("stake 2 and wrong values", x -> x.addReading(2, -1, 10000), NOT_FOUND);
        Refusal.refused("no stakes", GlacierCamera::new, x -> x.addReading(0, 6, 1), NOT_FOUND);
        for (int stake : NO_INDICES) {
            Refusal.refused("stake " + stake, x -> x.addReading(stake, 6, 1), NOT_FOUND);
            Refusal.refused("stake " + stake + " and wrong values", x -> x.addReading(stake, stake, stake), NOT_FOUND);
        }
    }

    // Removing.

    @Says({"Removes a reading", "Returns the new number of readings"})
    static void promise52_firstMiddleAndLastReading() {
        GlacierCamera first = stake(5, 50, 6, 60, 7, 70);
        Check.equal("first", first.removeReading(0, 5), 2);
        readings("without the first", first, 6, 60, 7, 70);
        GlacierCamera middle = stake(5, 50, 6, 60, 7, 70);
        Check.equal("middle", middle.removeReading(0, 6), 2);
        readings("without the middle one", middle, 5, 50, 7, 70);
        GlacierCamera last = stake(5, 50, 6, 60, 7, 70);
        Check.equal("last", last.removeReading(0, 7), 2);
        readings("without the last", last, 5, 50, 6, 60);
    }

    @Says("Returns the new number of readings")
    static void promise52_downToNoReading() {
        GlacierCamera x = Check.loaded(EIGHT);
        for (int i = 7; i >= 0; i--) {
            Check.equal("removeReading", x.removeReading(0, 80 - 10 * i), i);
        }
        Check.equal("of none", x.removeReading(0, 10), NOT_FOUND);
        Check.equal("changes", x.undoCount(), 8);
        Check.equal("the stake stays", x.stakeCount(), 1);
    }

    @Says("NOT_FOUND if stake is not a valid index or has no reading on that day")
    static void promise52_daysBesideAReading() {
        for (int day : new int[] {1, 3, 4, 6, 8, 10, 0, 9999, 10000, -1, Integer.MIN_VALUE, Integer.MAX_VALUE}) {
            Refusal.refused("day " + day, x -> x.removeReading(0, day), NOT_FOUND);
        }
        Refusal.refused("day of another stake", x -> x.removeReading(1, 5), NOT_FOUND);
        Refusal.refused("no readings", BoundaryStakeTest::bare, x -> x.removeReading(0, 5), NOT_FOUND);
    }

    @Says("NOT_FOUND if stake is not a valid index or has no reading on that day")
    static void promise52_stakeOneOutside() {
        Refusal.refused("stake 2 of two", x -> x.removeReading(2, 5), NOT_FOUND);
        Refusal.refused("no stakes", GlacierCamera::new, x -> x.removeReading(0, 5), NOT_FOUND);
        for (int stake : NO_INDICES) {
            Refusal.refused("stake " + stake, x -> x.removeReading(stake, 5), NOT_FOUND);
        }
    }

    // Drills.

    @Says("If the later length is less than the earlier one, the stake was drilled anew")
    static void promise53_lengthsEqualOneLessAndOneMore() {
        Check.equal("equal", stake(1, 5, 2, 5).drillCount(0), 0);
        Check.equal("one less", stake(1, 5, 2, 4).drillCount(0), 1);
        Check.equal("one more", stake(1, 5, 2, 6).drillCount(0), 0);
        Check.equal("down to 0", stake(1, 1, 2, 0).drillCount(0), 1);
        Check.equal("0 and 0", stake(1, 0, 2, 0).drillCount(0), 0);
        Check.equal("greatest to least", stake(1, 9999, 2, 0).drillCount(0), 1);
    }

    @Says("Returns the number of intervals of a stake in which it was drilled anew")
    static void promise53_noneAndAllIntervals() {
        Check.equal("no reading", bare().drillCount(0), 0);
        Check.equal("one reading", stake(1, 5).drillCount(0), 0);
        Check.equal("none of seven", Check.loaded(EIGHT).drillCount(0), 0);
        Check.equal("all of seven", stake(1, 8, 2, 7, 3, 6, 4, 5, 5, 4, 6, 3, 7, 2, 8, 1).drillCount(0), 7);
        Check.equal("the first", stake(1, 8, 2, 7, 3, 7, 4, 8).drillCount(0), 1);
        Check.equal("the last", stake(1, 7, 2, 7, 3, 8, 4, 7).drillCount(0), 1);
    }

    @Says("Throws IndexOutOfBoundsException if stake is not a valid index")
    static void promise53_stakeOneOutsideThrows() {
        Refusal.outOfBounds("drillCount(2) of two", x -> x.drillCount(2));
        for (int stake : NO_INDICES) {
            Refusal.outOfBounds("drillCount(" + stake + ")", x -> x.drillCount(stake));
        }
        Check.outOfBounds("no stakes", () -> new GlacierCamera().drillCount(0));
    }

    // Melt.

    @Says({"It exists only from the day of the first reading to the day of the last one", "NOT_FOUND if it does not exist"})
    static void promise54_firstAndLastDayAndOneOutside() {
        GlacierCamera x = stake(10, 0, 20, 30, 30, 40);
        int[][] due = {{9, NOT_FOUND}, {10, 0}, {11, 300}, {19, 2700}, {20, 3000}, {21, 3100}, {29, 3900}, {30, 4000}, {31, NOT_FOUND}};
        for (int[] day : due) {
            Check.equal("day " + day[0], x.meltTo(0, day[0]), day[1]);
        }
        for (int day : NO_INDICES) {
            Check.equal("day " + day, x.meltTo(0, day), NOT_FOUND);
        }
        GlacierCamera ends = stake(0, 0, 9999, 9999);
        Check.equal("day 0", ends.meltTo(0, 0), 0);
        Check.equal("day 9999", ends.meltTo(0, 9999), 999900);
        Check.equal("day 10000", ends.meltTo(0, 10000), NOT_FOUND);
        Check.equal("day -1", ends.meltTo(0, -1), NOT_FOUND);
    }

    @Says("The total melt up to a day is 0 on the day of the first reading")
    static void promise54_oneReadingAndNone() {
        GlacierCamera x = stake(5, 7);
        Check.equal("the day before", x.meltTo(0, 4), NOT_FOUND);
        Check.equal("its day", x.meltTo(0, 5), 0);
        Check.equal("the day after", x.meltTo(0, 6), NOT_FOUND);
        Check.equal("no reading", bare().meltTo(0, 5), NOT_FOUND);
        Check.equal("no reading, day 0", bare().meltTo(0, 0), NOT_FOUND);
    }

    @Says("it is given in hundredths of a centimeter, rounded down")
    static void promise54_hundredthsJustBelowAWholeNumber() {
        GlacierCamera x = stake(0, 0, 101, 1);
        Check.equal("100 / 101", x.meltTo(0, 1), 0);
        Check.equal("200 / 101", x.meltTo(0, 2), 1);
        Check.equal("10000 / 101", x.meltTo(0, 100), 99);
        Check.equal("the last day", x.meltTo(0, 101), 100);
        GlacierCamera even = stake(0, 0, 100, 1);
        Check.equal("100 / 100", even.meltTo(0, 1), 1);
        Check.equal("9900 / 100", even.meltTo(0, 99), 99);
        GlacierCamera thirds = stake(0, 0, 3, 1, 6, 2);
        int[] due = {0, 33, 66, 100, 133, 166, 200};
        for (int day = 0; day <= 6; day++) {
            Check.equal("day " + day, thirds.meltTo(0, day), due[day]);
        }
    }

    @Says("If the later length is less than the earlier one, the stake was drilled anew, and the melt is the later length")
    static void promise54_meltWithLengthsEqualOneLessAndOneMore() {
        Check.equal("equal", stake(0, 5, 1, 5).meltTo(0, 1), 0);
        Check.equal("one less", stake(0, 5, 1, 4).meltTo(0, 1), 400);
        Check.equal("one more", stake(0, 5, 1, 6).meltTo(0, 1), 100);
        Check.equal("down to 0", stake(0, 5, 1, 0).meltTo(0, 1), 0);
        Check.equal("0 and 0", stake(0, 0, 1, 0).meltTo(0, 1), 0);
        Check.equal("greatest", stake(0, 0, 1, 9999).meltTo(0, 1), 999900);
        Check.equal("greatest, drilled", stake(0, 9999, 1, 9998).meltTo(0, 1), 999800);
    }

    @Says("increases by the melt of each interval up to the day of its later reading, and is interpolated linearly within an interval")
    static void promise54_greatestTotal() {
        GlacierCamera x = stake(0, 0, 1, 9999, 2, 9998, 3, 9997, 4, 9996, 5, 9995, 6, 9994, 9999, 9993);
        int[] due = {0, 999900, 1999700, 2999400, 3999000, 4998500, 5997900};
        for (int day = 0; day <= 6; day++) {
            Check.equal("day " + day, x.meltTo(0, day), due[day]);
        }
        Check.equal("the last day", x.meltTo(0, 9999), 6997200);
        Check.equal("the last day but one", x.meltTo(0, 9998), 5997900 + (int) (999300L * 9992 / 9993));
    }

    @Says("Throws IndexOutOfBoundsException if stake is not a valid index")
    static void promise54_stakeOneOutsideThrows() {
        Refusal.refused("day 10", x -> x.meltTo(0, 10), NOT_FOUND);
        Refusal.outOfBounds("meltTo(2, 5) of two", x -> x.meltTo(2, 5));
        for (int stake : NO_INDICES) {
            Refusal.outOfBounds("meltTo(" + stake + ", 5)", x -> x.meltTo(stake, 5));
        }
        Check.outOfBounds("no stakes", () -> new GlacierCamera().meltTo(0, 0));
    }

    @Says("BAD_VALUE if from is greater than to")
    static void promise55_fromEqualToToAndOneGreater() {
        GlacierCamera x = stake(10, 0, 20, 30, 30, 40);
        Check.equal("equal", x.melt(0, 15, 15), 0);
        Check.equal("one less", x.melt(0, 14, 15), 300);
        Check.equal("one greater", x.melt(0, 16, 15), BAD_VALUE);
        Check.equal("least and greatest", x.melt(0, Integer.MAX_VALUE, Integer.MIN_VALUE), BAD_VALUE);
        Refusal.refused("one greater", y -> y.melt(0, 6, 5), BAD_VALUE);
    }

    @Says("NOT_FOUND if one of the total melts does not exist")
    static void promise55_firstAndLastDayAndOneOutside() {
        GlacierCamera x = stake(10, 0, 20, 30, 30, 40);
        Check.equal("first to last", x.melt(0, 10, 30), 4000);
        Check.equal("from the day before", x.melt(0, 9, 30), NOT_FOUND);
        Check.equal("to the day after", x.melt(0, 10, 31), NOT_FOUND);
        Check.equal("from the middle to the last day", x.melt(0, 15, 30), 2500);
        Check.equal("from the middle to the day after", x.melt(0, 15, 31), NOT_FOUND);
        Check.equal("from the day before to the middle", x.melt(0, 9, 15), NOT_FOUND);
        Check.equal("first day", x.melt(0, 10, 10), 0);
        Check.equal("last day", x.melt(0, 30, 30), 0);
        Check.equal("the day before alone", x.melt(0, 9, 9), NOT_FOUND);
        Check.equal("the day after alone", x.melt(0, 31, 31), NOT_FOUND);
        Check.equal("over all", x.melt(0, Integer.MIN_VALUE, Integer.MAX_VALUE), NOT_FOUND);
        Check.equal("no reading", bare().melt(0, 5, 5), NOT_FOUND);
        Check.equal("from greater, outside", x.melt(0, 32, 31), BAD_VALUE);
        Check.equal("from greater, no reading", bare().melt(0, 6, 5), BAD_VALUE);
    }

    @Says("the total melt up to the later day minus that up to the earlier one")
    static void promise55_differenceOfTotalsThatAreRoundedDown() {
        GlacierCamera x = stake(0, 0, 3, 1, 6, 2);
        int[] due = {33, 33, 34, 33, 33, 34};
        for (int day = 0; day < 6; day++) {
            Check.equal("from day " + day, x.melt(0, day, day + 1), due[day]);
        }
        Check.equal("over a reading", x.melt(0, 2, 4), 133 - 66);
    }

    @Says("Throws IndexOutOfBoundsException if stake is not a valid index (checked first)")
    static void promise55_stakeOneOutsideThrowsBeforeBadValue() {
        Refusal.outOfBounds("melt(2, 2, 5) of two", x -> x.melt(2, 2, 5));
        Refusal.outOfBounds("melt(2, 5, 2) of two", x -> x.melt(2, 5, 2));
        for (int stake : NO_INDICES) {
            Refusal.outOfBounds("melt(" + stake + ", 5, 2)", x -> x.melt(stake, 5, 2));
        }
        Check.outOfBounds("no stakes", () -> new GlacierCamera().melt(0, 1, 0));
    }

    @Says("BAD_VALUE if from is greater than to (checked first)")
    static void promise56_fromGreaterIsToldFirst() {
        GlacierCamera x = stake(10, 0, 20, 30);
        Check.equal("equal", x.meanMelt(15, 15), 0);
        Check.equal("one greater", x.meanMelt(16, 15), BAD_VALUE);
        Check.equal("one greater, no stake", new GlacierCamera().meanMelt(1, 0), BAD_VALUE);
        Check.equal("equal, no stake", new GlacierCamera().meanMelt(1, 1), NOT_FOUND);
        Check.equal("greatest and least", x.meanMelt(Integer.MAX_VALUE, Integer.MIN_VALUE), BAD_VALUE);
        Refusal.refused("one greater", y -> y.meanMelt(6, 5), BAD_VALUE);
    }

    @Says({"NOT_FOUND if there are no such stakes", "over all stakes for which melt returns a melt"})
    static void promise56_noStakeWithAMelt() {
        GlacierCamera x = Check.loaded("stake 10 0 20 30;stake 12 0 22 30;");
        Check.equal("both", x.meanMelt(12, 20), (2400 + 2400) / 2);
        Check.equal("from the first day of the first", x.meanMelt(10, 20), 3000);
        Check.equal("to the last day of the second", x.meanMelt(12, 22), 3000);
        Check.equal("from the middle of both to the last day of the second", x.meanMelt(17, 22), 1500);
        Check.equal("from the middle of both to the day after", x.meanMelt(17, 23), NOT_FOUND);
        Check.equal("neither", x.meanMelt(10, 22), NOT_FOUND);
        Check.equal("neither before", x.meanMelt(9, 9), NOT_FOUND);
        Check.equal("neither after", x.meanMelt(23, 23), NOT_FOUND);
        Check.equal("a stake without readings", bare().meanMelt(5, 5), NOT_FOUND);
        Refusal.refused("neither", y -> y.meanMelt(0, 9999), NOT_FOUND);
    }

    @Says("Returns the sum of the melts divided by the number of these stakes, rounded down")
    static void promise56_meanJustBelowAWholeNumber() {
        Check.equal("0, 0 and 1", Check.loaded("stake 0 0 100 0;stake 0 0 100 0;stake 0 0 100 1;").meanMelt(0, 1), 0);
        Check.equal("1, 1 and 0", Check.loaded("stake 0 0 100 1;stake 0 0 100 1;stake 0 0 100 0;").meanMelt(0, 1), 0);
        Check.equal("1, 1 and 1", Check.loaded("stake 0 0 100 1;stake 0 0 100 1;stake 0 0 100 1;").meanMelt(0, 1), 1);
        Check.equal("1 and 2", Check.loaded("stake 0 0 100 1;stake 0 0 100 2;").meanMelt(0, 1), 1);
        Check.equal("1 and a stake that does not count", Check.loaded("stake 0 0 100 1;stake 1 0 100 2;").meanMelt(0, 1), 1);
        Check.equal("a melt of 0 counts", Check.loaded("stake 0 5 9 5;stake 0 0 9 2;").meanMelt(0, 9), 100);
        Check.equal("a single melt of 0", Check.loaded("stake 0 5 9 5;").meanMelt(0, 9), 0);
    }

    @Says("Returns the sum of the melts divided by the number of these stakes, rounded down")
    static void promise56_greatestSum() {
        String stake = "stake 0 0 1 9999 2 9998 3 9997 4 9996 5 9995 6 9994 7 9993;";
        Check.equal("three stakes", Check.loaded(stake + stake + stake).meanMelt(0, 7), 6997200);
    }

    // The warmest interval.

    @Says("NOT_FOUND if the stake has no intervals")
    static void promise57_noneOneAndTwoReadings() {
        Check.equal("no reading", bare().warmestInterval(0), NOT_FOUND);
        Check.equal("one reading", stake(5, 7).warmestInterval(0), NOT_FOUND);
        Check.equal("two readings", stake(5, 7, 6, 7).warmestInterval(0), 0);
        Check.equal("melt 0 everywhere", stake(5, 7, 6, 7, 7, 7).warmestInterval(0), 0);
    }

    @Says({"Ties are broken by lower index", "intervals are indexed from 0"})
    static void promise57_tieAndOneFaster() {
        Check.equal("tie", stake(0, 0, 1, 5, 2, 10).warmestInterval(0), 0);
        Check.equal("tie of fractions", stake(0, 0, 3, 1, 9, 3).warmestInterval(0), 0);
        Check.equal("tie behind a colder one", stake(0, 0, 1, 1, 2, 3, 3, 5).warmestInterval(0), 1);
        Check.equal("second faster", stake(0, 0, 1, 5, 2, 11).warmestInterval(0), 1);
        Check.equal("the last of seven", stake(0, 0, 1, 0, 2, 0, 3, 0, 4, 0, 5, 0, 6, 0, 7, 1).warmestInterval(0), 6);
        Check.equal("the first of seven", stake(0, 0, 1, 1, 2, 1, 3, 1, 4, 1, 5, 1, 6, 1, 7, 1).warmestInterval(0), 0);
        Check.equal("drilled anew", stake(0, 5, 1, 9, 2, 5).warmestInterval(0), 1);
    }

    @Says("The melt divided by the number of days is compared exactly")
    static void promise57_fractionsThatDifferLittle() {
        Check.equal("1/3 and 333/998", stake(0, 0, 3, 1, 1001, 334).warmestInterval(0), 1);
        Check.equal("333/998 and 1/3", stake(0, 0, 998, 333, 1001, 334).warmestInterval(0), 0);
        Check.equal("1/4999 and 1/5000", stake(0, 0, 4999, 1, 9999, 2).warmestInterval(0), 0);
        Check.equal("1/5000 and 1/4999", stake(0, 0, 5000, 1, 9999, 2).warmestInterval(0), 1);
        Check.equal("4999/4999 and 4999/5000", stake(0, 0, 4999, 4999, 9999, 9998).warmestInterval(0), 0);
        Check.equal("4998/4999 and 4999/5000", stake(0, 0, 4999, 4998, 9999, 9997).warmestInterval(0), 1);
        Check.equal("9999/1 and 9998/9998", stake(0, 0, 1, 9999, 9999, 9998).warmestInterval(0), 0);
        Check.equal("2/3 and 1/1", stake(0, 0, 3, 2, 4, 3).warmestInterval(0), 1);
    }

    @Says("Throws IndexOutOfBoundsException if stake is not a valid index")
    static void promise57_stakeOneOutsideThrows() {
        Refusal.refused("the last of two", x -> x.warmestInterval(1), NOT_FOUND);
        Refusal.outOfBounds("warmestInterval(2) of two", x -> x.warmestInterval(2));
        for (int stake : NO_INDICES) {
            Refusal.outOfBounds("warmestInterval(" + stake + ")", x -> x.warmestInterval(stake));
        }
        Check.outOfBounds("no stakes", () -> new GlacierCamera().warmestInterval(0));
    }
}
