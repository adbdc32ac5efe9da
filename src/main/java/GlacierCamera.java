/** An analyzer for time-lapse images of a glacier. The document of the project says what each call answers. */
public final class GlacierCamera {
    public static final int WINDOW = 0, RANGE = 1, SHIFT = 2, CONTRAST = 3, TOLERANCE = 4, SCALE = 5, GAP = 6, SURGE = 7;
    public static final int NOT_FOUND = -1;
    public static final int BAD_VALUE = -2;
    public static final int FULL = -3;
    public static final int SYNTAX_ERROR = -11, RANGE_ERROR = -12, DUPLICATE_ERROR = -13, ORDER_ERROR = -14, COUNT_ERROR = -15;

    private static final int SETTINGS = 8;
    private static final int[] LEAST_VALUE = {0, 1, 0, 0, 0, 1, 1, 0};
    private static final int[] GREATEST_VALUE = {2, 4, 3, 9, 9, 1000, 999, 9999};
    private static final int[] INITIAL_VALUE = {1, 2, 1, 2, 2, 100, 10, 50};

    private static final int MIN_WIDTH = 4, MAX_WIDTH = 12, INITIAL_WIDTH = 12;
    private static final int MIN_HEIGHT = 4, MAX_HEIGHT = 10, INITIAL_HEIGHT = 8;
    private static final int MAX_BRIGHTNESS = 9;
    private static final int MAX_DAY = 9999;
    private static final int MAX_LENGTH = 9999;

    private static final int MAX_FRAMES = 6;
    private static final int MAX_CONTROLS = 4;
    private static final int MAX_FEATURES = 6;
    private static final int MAX_STAKES = 3;
    private static final int MAX_READINGS = 8;
    private static final int MAX_CHANGES = 10;
    private static final int MAX_INPUT = 1400;
    private static final int FEED_BYTES = 20;

    /** The version of an analysis that has not been made yet. */
    private static final int NEVER = -1;

    private Scene scene = new Scene();
    private final Loader loader = new Loader();
    private final Journal journal = new Journal();
    private final Orientation orientation = new Orientation();
    private final Match found = new Match();
    private final Track[] tracks = new Track[MAX_FEATURES];
    private final Track trial = new Track();
    private int lastErrorPosition = NOT_FOUND;
    /** Grows with each change, so that orientation and tracks are worked out anew only when they must be. */
    private int version = 0;

    public GlacierCamera() {
        for (int i = 0; i < MAX_FEATURES; i++) {
            tracks[i] = new Track();
        }
    }

    public int feed(int a, int b, int c, int d, int e) {
        Input input = loader.input;
        if (input.size + FEED_BYTES > MAX_INPUT) {
            return FULL;
        }
        input.append(a);
        input.append(b);
        input.append(c);
        input.append(d);
        input.append(e);
        return input.size;
    }

    public int load(int length) {
        Input input = loader.input;
        if (length < 0 || length > input.size) {
            return BAD_VALUE;
        }
        int result = loader.readText(length);
        input.size = 0;
        if (result < 0) {
            lastErrorPosition = input.start;
            return result;
        }
        lastErrorPosition = NOT_FOUND;
        scene = loader.exchange(scene);
        journal.clear();
        version++;
        return result;
    }

    public int errorPosition() {
        return lastErrorPosition;
    }

    public int width() {
        return scene.columns;
    }

    public int height() {
        return scene.rows;
    }

    public int frameCount() {
        return scene.frameTotal;
    }

    public int controlCount() {
        return scene.controls.count;
    }

    public int featureCount() {
        return scene.features.count;
    }

    public int stakeCount() {
        return scene.stakeTotal;
    }

    public int getSetting(int setting) {
        return isSetting(setting) ? scene.settings[setting] : BAD_VALUE;
    }

    public int setSetting(int setting, int value) {
        if (!isSetting(setting) || !isBetween(value, LEAST_VALUE[setting], GREATEST_VALUE[setting])) {
            return BAD_VALUE;
        }
        int previous = scene.settings[setting];
        record(Change.SETTING, setting, 0, 0, previous);
        scene.settings[setting] = value;
        return previous;
    }

    public int frameDay(int frame) throws IndexOutOfBoundsException {
        requireFrame(frame);
        return scene.dayOf(frame);
    }

    public int pixel(int frame, int x, int y) throws IndexOutOfBoundsException {
        requireFrame(frame);
        requirePixel(x, y);
        return scene.brightnessAt(frame, x, y);
    }

    public boolean setPixel(int frame, int x, int y, int brightness) {
        if (!scene.hasFrame(frame) || !scene.hasPixel(x, y) || !isBetween(brightness, 0, MAX_BRIGHTNESS)) {
            return false;
        }
        record(Change.PIXEL, frame, x, y, scene.brightnessAt(frame, x, y));
        scene.paint(frame, x, y, brightness);
        return true;
    }

    public int removeFrame(int frame) {
        if (!scene.hasFrame(frame)) {
            return NOT_FOUND;
        }
        record(Change.FRAME_REMOVED, frame, 0, 0, 0);
        scene.takeOut(frame);
        return scene.frameTotal;
    }

    public int contrast(int frame) throws IndexOutOfBoundsException {
        requireFrame(frame);
        return scene.contrastOf(frame);
    }

    public boolean isUsable(int frame) throws IndexOutOfBoundsException {
        requireFrame(frame);
        return scene.usable(frame);
    }

    public int referenceFrame() {
        return scene.usableFrom(0);
    }

    public boolean isOriented(int frame) throws IndexOutOfBoundsException {
        requireFrame(frame);
        return currentOrientation().covers(frame);
    }

    public int shiftX(int frame) throws IndexOutOfBoundsException, IllegalStateException {
        requireOriented(frame);
        return orientation.xShiftOf(frame);
    }

    public int shiftY(int frame) throws IndexOutOfBoundsException, IllegalStateException {
        requireOriented(frame);
        return orientation.yShiftOf(frame);
    }

    public int shiftError(int frame) throws IndexOutOfBoundsException {
        requireFrame(frame);
        return currentOrientation().errorOf(frame);
    }

    public int match(int from, int x, int y, int to) throws IndexOutOfBoundsException {
        Match match = matchOf(from, x, y, to);
        return match.exists() ? 16 * match.x + match.y : NOT_FOUND;
    }

    public int matchError(int from, int x, int y, int to) throws IndexOutOfBoundsException {
        Match match = matchOf(from, x, y, to);
        return match.exists() ? match.least : NOT_FOUND;
    }

    public int matchMargin(int from, int x, int y, int to) throws IndexOutOfBoundsException {
        Match match = matchOf(from, x, y, to);
        return match.candidates > 1 ? match.second - match.least : NOT_FOUND;
    }

    public int trackX(int feature, int frame) throws IndexOutOfBoundsException {
        requireFeature(feature);
        requireFrame(frame);
        return trackOf(feature).columnIn(frame);
    }

    public int trackY(int feature, int frame) throws IndexOutOfBoundsException {
        requireFeature(feature);
        requireFrame(frame);
        return trackOf(feature).rowIn(frame);
    }

    public int lostCount(int feature) throws IndexOutOfBoundsException {
        requireFeature(feature);
        return trackOf(feature).lost;
    }

    public int loopError(int feature, int b, int c) throws IndexOutOfBoundsException {
        requireFeature(feature);
        requireFrame(b);
        requireFrame(c);
        return errorOfLoop(feature, b, c);
    }

    public int closedLoops(int feature) throws IndexOutOfBoundsException {
        requireFeature(feature);
        int reference = currentOrientation().reference;
        if (reference == NOT_FOUND) {
            return 0;
        }
        int closed = 0;
        for (int b = reference + 1; b < scene.frameTotal; b++) {
            for (int c = b + 1; c < scene.frameTotal; c++) {
                if (errorOfLoop(feature, b, c) == 0) {
                    closed++;
                }
            }
        }
        return closed;
    }

    public int leastTolerance(int feature) throws IndexOutOfBoundsException {
        requireFeature(feature);
        // A feature that is tracked everywhere takes the same way with every tolerance, so the widest one tells.
        trial.trace(scene, currentOrientation(), found, feature, GREATEST_VALUE[TOLERANCE]);
        if (trial.count == 0 || trial.lost > 0) {
            return NOT_FOUND;
        }
        int pixels = scene.windowPixels();
        return quotient(trial.worst + pixels - 1, pixels);
    }

    public int segmentCount(int feature) throws IndexOutOfBoundsException {
        requireFeature(feature);
        return trackOf(feature).segments();
    }

    public int speed(int feature, int segment) throws IndexOutOfBoundsException {
        requireFeature(feature);
        Track track = trackOf(feature);
        requireSegment(track, segment);
        return track.speedOf(segment, scene.settings[SCALE]);
    }

    public int meanSpeed(int feature) throws IndexOutOfBoundsException {
        requireFeature(feature);
        return trackOf(feature).averageSpeed(scene.settings[SCALE]);
    }

    public int meanSpeedWithScale(int feature, int scale) throws IndexOutOfBoundsException {
        requireFeature(feature);
        if (!isBetween(scale, LEAST_VALUE[SCALE], GREATEST_VALUE[SCALE])) {
            return BAD_VALUE;
        }
        return trackOf(feature).averageSpeed(scale);
    }

    public int fastestFeature() {
        int fastest = NOT_FOUND;
        int greatest = 0;
        for (int i = 0; i < scene.features.count; i++) {
            Track track = trackOf(i);
            int average = track.averageSpeed(scene.settings[SCALE]);
            if (track.segments() > 0 && (fastest == NOT_FOUND || average > greatest)) {
                fastest = i;
                greatest = average;
            }
        }
        return fastest;
    }

    public int surgeCount(int feature) throws IndexOutOfBoundsException {
        requireFeature(feature);
        return trackOf(feature).surges(scene.settings[SCALE], scene.settings[SURGE]);
    }

    public int surgeStart(int feature, int surge) throws IndexOutOfBoundsException {
        requireFeature(feature);
        Track track = trackOf(feature);
        int first = track.surgeBegin(surge, scene.settings[SCALE], scene.settings[SURGE]);
        return first == NOT_FOUND ? NOT_FOUND : track.dayOf(first);
    }

    public int surgeDays(int feature, int surge) throws IndexOutOfBoundsException {
        requireFeature(feature);
        Track track = trackOf(feature);
        int first = track.surgeBegin(surge, scene.settings[SCALE], scene.settings[SURGE]);
        if (first == NOT_FOUND) {
            return NOT_FOUND;
        }
        int last = track.surgeEnd(first, scene.settings[SCALE], scene.settings[SURGE]);
        return track.dayOf(last) - track.dayOf(first);
    }

    public int positionX(int feature, int day) throws IndexOutOfBoundsException {
        requireFeature(feature);
        Track track = trackOf(feature);
        return track.interpolate(track.trueX, day);
    }

    public int positionY(int feature, int day) throws IndexOutOfBoundsException {
        requireFeature(feature);
        Track track = trackOf(feature);
        return track.interpolate(track.trueY, day);
    }

    public boolean moveFeature(int feature, int x, int y) {
        Points features = scene.features;
        if (!features.has(feature) || !scene.hasPixel(x, y)) {
            return false;
        }
        record(Change.FEATURE, feature, features.x[feature], features.y[feature], 0);
        features.place(feature, x, y);
        return true;
    }

    public int gapCount() {
        int gaps = 0;
        for (int frame = 0; frame < scene.frameTotal; frame++) {
            if (scene.gapAfter(frame) > 0) {
                gaps++;
            }
        }
        return gaps;
    }

    public int gapStart(int gap) {
        int frame = frameOfGap(gap);
        return frame == NOT_FOUND ? NOT_FOUND : scene.dayOf(frame);
    }

    public int gapDays(int gap) {
        int frame = frameOfGap(gap);
        return frame == NOT_FOUND ? NOT_FOUND : scene.gapAfter(frame);
    }

    public int longestGap() {
        int longest = 0;
        for (int frame = 0; frame < scene.frameTotal; frame++) {
            longest = Math.max(longest, scene.gapAfter(frame));
        }
        return longest;
    }

    public int readingCount(int stake) throws IndexOutOfBoundsException {
        requireStake(stake);
        return scene.stakes[stake].count;
    }

    public int readingDay(int stake, int reading) throws IndexOutOfBoundsException {
        requireReading(stake, reading);
        return scene.stakes[stake].days[reading];
    }

    public int readingLength(int stake, int reading) throws IndexOutOfBoundsException {
        requireReading(stake, reading);
        return scene.stakes[stake].lengths[reading];
    }

    public int addReading(int stake, int day, int length) {
        if (!scene.hasStake(stake)) {
            return NOT_FOUND;
        }
        Stake target = scene.stakes[stake];
        if (!isBetween(day, 0, MAX_DAY) || !isBetween(length, 0, MAX_LENGTH) || target.readingOn(day) != NOT_FOUND) {
            return BAD_VALUE;
        }
        if (target.count >= MAX_READINGS) {
            return FULL;
        }
        record(Change.READING_ADDED, stake, day, 0, 0);
        target.insert(day, length);
        return target.count;
    }

    public int removeReading(int stake, int day) {
        if (!scene.hasStake(stake)) {
            return NOT_FOUND;
        }
        Stake target = scene.stakes[stake];
        int reading = target.readingOn(day);
        if (reading == NOT_FOUND) {
            return NOT_FOUND;
        }
        record(Change.READING_REMOVED, stake, day, 0, target.lengths[reading]);
        target.delete(day);
        return target.count;
    }

    public int drillCount(int stake) throws IndexOutOfBoundsException {
        requireStake(stake);
        Stake target = scene.stakes[stake];
        int drilled = 0;
        for (int i = 0; i < target.count - 1; i++) {
            if (target.drilledIn(i)) {
                drilled++;
            }
        }
        return drilled;
    }

    public int meltTo(int stake, int day) throws IndexOutOfBoundsException {
        requireStake(stake);
        return scene.stakes[stake].totalTo(day);
    }

    public int melt(int stake, int from, int to) throws IndexOutOfBoundsException {
        requireStake(stake);
        return scene.stakes[stake].meltBetween(from, to);
    }

    public int meanMelt(int from, int to) {
        return averageMelt(from, to);
    }

    public int warmestInterval(int stake) throws IndexOutOfBoundsException {
        requireStake(stake);
        Stake target = scene.stakes[stake];
        int warmest = NOT_FOUND;
        for (int i = 0; i < target.count - 1; i++) {
            if (warmest == NOT_FOUND || target.meltsFaster(i, warmest)) {
                warmest = i;
            }
        }
        return warmest;
    }

    public int undo() {
        if (journal.count == 0) {
            return NOT_FOUND;
        }
        journal.takeLatest().revert(scene);
        version++;
        return journal.count;
    }

    public int undoCount() {
        return journal.count;
    }

    public int registered(int frame, int x, int y) throws IndexOutOfBoundsException {
        requireFrame(frame);
        requirePixel(x, y);
        return registeredAt(currentOrientation(), frame, x, y);
    }

    public int changedPixels(int a, int b, int difference) throws IndexOutOfBoundsException {
        requireFrame(a);
        requireFrame(b);
        if (!isBetween(difference, 1, MAX_BRIGHTNESS)) {
            return BAD_VALUE;
        }
        Orientation current = currentOrientation();
        if (!current.covers(a) || !current.covers(b)) {
            return NOT_FOUND;
        }
        int changed = 0;
        for (int y = 0; y < scene.rows; y++) {
            for (int x = 0; x < scene.columns; x++) {
                int inA = registeredAt(current, a, x, y);
                int inB = registeredAt(current, b, x, y);
                if (inA != NOT_FOUND && inB != NOT_FOUND && Math.abs(inA - inB) >= difference) {
                    changed++;
                }
            }
        }
        return changed;
    }

    public int snowLine(int frame, int brightness) throws IndexOutOfBoundsException {
        requireFrame(frame);
        if (!isBetween(brightness, 0, MAX_BRIGHTNESS)) {
            return BAD_VALUE;
        }
        for (int y = 0; y < scene.rows; y++) {
            int bright = 0;
            for (int x = 0; x < scene.columns; x++) {
                if (scene.brightnessAt(frame, x, y) >= brightness) {
                    bright++;
                }
            }
            if (2 * bright < scene.columns) {
                return y;
            }
        }
        return scene.rows;
    }

    public int strain(int first, int second) throws IndexOutOfBoundsException {
        requireFeature(first);
        requireFeature(second);
        Track one = trackOf(first);
        Track other = trackOf(second);
        int together = 0;
        int earliest = 0;
        int latest = 0;
        for (int frame = 0; frame < scene.frameTotal; frame++) {
            if (one.isTrackedIn(frame) && other.isTrackedIn(frame)) {
                latest = one.distanceTo(other, frame);
                earliest = together == 0 ? latest : earliest;
                together++;
            }
        }
        return together < 2 ? Integer.MIN_VALUE : latest - earliest;
    }

    public int direction(int feature) throws IndexOutOfBoundsException {
        requireFeature(feature);
        Track track = trackOf(feature);
        int dx = track.travelled(track.trueX);
        int dy = track.travelled(track.trueY);
        if (dx == 0 && dy == 0) {
            return NOT_FOUND;
        }
        if (Math.abs(dx) > 2 * Math.abs(dy)) {
            return dx > 0 ? 0 : 4;
        }
        if (Math.abs(dy) > 2 * Math.abs(dx)) {
            return dy > 0 ? 2 : 6;
        }
        if (dy > 0) {
            return dx > 0 ? 1 : 3;
        }
        return dx < 0 ? 5 : 7;
    }

    public int meltInSegment(int feature, int segment) throws IndexOutOfBoundsException {
        requireFeature(feature);
        Track track = trackOf(feature);
        requireSegment(track, segment);
        return averageMelt(track.dayOf(segment), track.dayOf(segment + 1));
    }

    private static boolean isSetting(int setting) {
        return setting >= 0 && setting < SETTINGS;
    }

    private static boolean isBetween(int value, int least, int greatest) {
        return value >= least && value <= greatest;
    }

    /** A quotient rounded down, of a number that is not negative; 0 for a divisor that is none. */
    private static int quotient(int dividend, int divisor) {
        return divisor > 0 ? dividend / divisor : 0;
    }

    /** The square root, rounded down, of a number from 0 to 2^60. */
    private static int squareRoot(long number) {
        long root = 0;
        for (long bit = 1L << 30; bit > 0; bit >>= 1) {
            long next = root + bit;
            if (next * next <= number) {
                root = next;
            }
        }
        return (int) root;
    }

    private void requireFrame(int frame) {
        if (!scene.hasFrame(frame)) {
            throw new IndexOutOfBoundsException("no such frame");
        }
    }

    private void requirePixel(int x, int y) {
        if (!scene.hasPixel(x, y)) {
            throw new IndexOutOfBoundsException("not in the image");
        }
    }

    private void requireOriented(int frame) {
        requireFrame(frame);
        if (!currentOrientation().covers(frame)) {
            throw new IllegalStateException("the frame is not oriented");
        }
    }

    private void requireFeature(int feature) {
        if (!scene.features.has(feature)) {
            throw new IndexOutOfBoundsException("no such feature");
        }
    }

    private static void requireSegment(Track track, int segment) {
        if (!track.hasSegment(segment)) {
            throw new IndexOutOfBoundsException("no such segment");
        }
    }

    private void requireStake(int stake) {
        if (!scene.hasStake(stake)) {
            throw new IndexOutOfBoundsException("no such stake");
        }
    }

    private void requireReading(int stake, int reading) {
        requireStake(stake);
        if (reading < 0 || reading >= scene.stakes[stake].count) {
            throw new IndexOutOfBoundsException("no such reading");
        }
    }

    /** Notes how a change that is about to be made is undone. */
    private void record(int kind, int index, int x, int y, int value) {
        journal.add(kind, index, x, y, value);
        version++;
    }

    private Orientation currentOrientation() {
        if (orientation.version != version) {
            orientation.begin(scene.usableFrom(0));
            for (int frame = 0; frame < scene.frameTotal; frame++) {
                if (scene.usable(frame)) {
                    orientation.findShift(scene, frame);
                }
            }
            orientation.version = version;
        }
        return orientation;
    }

    /** The track of a feature, whose index is valid. */
    private Track trackOf(int feature) {
        Track track = tracks[feature];
        if (track.version != version) {
            track.trace(scene, currentOrientation(), found, feature, scene.settings[TOLERANCE]);
            track.version = version;
        }
        return track;
    }

    private Match matchOf(int from, int x, int y, int to) {
        requireFrame(from);
        requireFrame(to);
        requirePixel(x, y);
        found.search(scene, currentOrientation(), from, x, y, to);
        return found;
    }

    private int errorOfLoop(int feature, int b, int c) {
        Orientation current = currentOrientation();
        int reference = current.reference;
        int x = scene.features.x[feature];
        int y = scene.features.y[feature];
        found.search(scene, current, reference, x, y, b);
        if (found.exists()) {
            found.search(scene, current, b, found.x, found.y, c);
        }
        if (found.exists()) {
            found.search(scene, current, c, found.x, found.y, reference);
        }
        return found.exists() ? Math.abs(found.x - x) + Math.abs(found.y - y) : NOT_FOUND;
    }

    /** The first frame of a gap; NOT_FOUND if there is no such gap. */
    private int frameOfGap(int gap) {
        int gaps = 0;
        for (int frame = 0; frame < scene.frameTotal; frame++) {
            if (scene.gapAfter(frame) > 0) {
                if (gaps == gap) {
                    return frame;
                }
                gaps++;
            }
        }
        return NOT_FOUND;
    }

    private int averageMelt(int from, int to) {
        if (from > to) {
            return BAD_VALUE;
        }
        int sum = 0;
        int stakes = 0;
        for (int i = 0; i < scene.stakeTotal; i++) {
            int melted = scene.stakes[i].meltBetween(from, to);
            if (melted >= 0) {
                sum += melted;
                stakes++;
            }
        }
        return stakes == 0 ? NOT_FOUND : quotient(sum, stakes);
    }

    private int registeredAt(Orientation current, int frame, int x, int y) {
        int shiftedX = x + current.xShiftOf(frame);
        int shiftedY = y + current.yShiftOf(frame);
        boolean visible = current.covers(frame) && scene.hasPixel(shiftedX, shiftedY);
        return visible ? scene.brightnessAt(frame, shiftedX, shiftedY) : NOT_FOUND;
    }

    /** An image, with the day on which it was taken. */
    private static final class Frame {
        int day = 0;
        /** Row after row, each as long as the widest image, whatever the width. */
        final int[] brightness = new int[MAX_WIDTH * MAX_HEIGHT];
    }

    /** Pixels of the reference frame, in the order in which they were given. */
    private static final class Points {
        final int limit;
        final int[] x = new int[MAX_FEATURES];
        final int[] y = new int[MAX_FEATURES];
        int count = 0;

        Points(int limit) {
            this.limit = Math.min(limit, MAX_FEATURES);
        }

        boolean has(int index) {
            return index >= 0 && index < count;
        }

        boolean isFull() {
            return count >= limit;
        }

        void add(int column, int row) {
            if (!isFull()) {
                count++;
                place(count - 1, column, row);
            }
        }

        void place(int index, int column, int row) {
            if (has(index)) {
                x[index] = column;
                y[index] = row;
            }
        }
    }

    /** A stake and its readings, in the order of their days. */
    private static final class Stake {
        int count = 0;
        final int[] days = new int[MAX_READINGS];
        final int[] lengths = new int[MAX_READINGS];

        /** The index of the reading on a day, or NOT_FOUND. */
        int readingOn(int day) {
            for (int i = 0; i < count; i++) {
                if (days[i] == day) {
                    return i;
                }
            }
            return NOT_FOUND;
        }

        void insert(int day, int length) {
            if (count >= MAX_READINGS) {
                return;
            }
            int place = count;
            while (place > 0 && days[place - 1] > day) {
                days[place] = days[place - 1];
                lengths[place] = lengths[place - 1];
                place--;
            }
            days[place] = day;
            lengths[place] = length;
            count++;
        }

        void delete(int day) {
            int place = readingOn(day);
            if (place == NOT_FOUND) {
                return;
            }
            for (int i = place; i + 1 < count; i++) {
                days[i] = days[i + 1];
                lengths[i] = lengths[i + 1];
            }
            count--;
        }

        boolean hasInterval(int interval) {
            return interval >= 0 && interval < count - 1;
        }

        boolean drilledIn(int interval) {
            return hasInterval(interval) && lengths[interval + 1] < lengths[interval];
        }

        int meltIn(int interval) {
            if (!hasInterval(interval)) {
                return 0;
            }
            int earlier = lengths[interval];
            int later = lengths[interval + 1];
            return later < earlier ? later : later - earlier;
        }

        int daysOf(int interval) {
            return hasInterval(interval) ? days[interval + 1] - days[interval] : 0;
        }

        /** Compares the melts per day as fractions, since rounded ones could seem equal. */
        boolean meltsFaster(int interval, int other) {
            return (long) meltIn(interval) * daysOf(other) > (long) meltIn(other) * daysOf(interval);
        }

        /** The total melt up to a day, in hundredths of a centimeter; NOT_FOUND outside the readings. */
        int totalTo(int day) {
            if (count == 0 || day < days[0] || day > days[count - 1]) {
                return NOT_FOUND;
            }
            int total = 0;
            for (int i = 0; i < count - 1 && days[i] < day; i++) {
                int span = daysOf(i);
                int elapsed = Math.min(day - days[i], span);
                total += span > 0 ? (int) (100L * meltIn(i) * elapsed / span) : 0;
            }
            return total;
        }

        int meltBetween(int from, int to) {
            if (from > to) {
                return BAD_VALUE;
            }
            int earlier = totalTo(from);
            int later = totalTo(to);
            return earlier == NOT_FOUND || later == NOT_FOUND ? NOT_FOUND : later - earlier;
        }
    }

    /** All that a text describes and that changes change: images, points, stakes and settings. */
    private static final class Scene {
        int columns = INITIAL_WIDTH;
        int rows = INITIAL_HEIGHT;
        int frameTotal = 0;
        int stakeTotal = 0;
        final int[] settings = new int[SETTINGS];
        final Frame[] frames = new Frame[MAX_FRAMES];
        final Stake[] stakes = new Stake[MAX_STAKES];
        final Points controls = new Points(MAX_CONTROLS);
        final Points features = new Points(MAX_FEATURES);

        Scene() {
            for (int i = 0; i < MAX_FRAMES; i++) {
                frames[i] = new Frame();
            }
            for (int i = 0; i < MAX_STAKES; i++) {
                stakes[i] = new Stake();
            }
            for (int i = 0; i < SETTINGS; i++) {
                settings[i] = INITIAL_VALUE[i];
            }
        }

        void reset() {
            columns = INITIAL_WIDTH;
            rows = INITIAL_HEIGHT;
            frameTotal = 0;
            stakeTotal = 0;
            controls.count = 0;
            features.count = 0;
            for (int i = 0; i < SETTINGS; i++) {
                settings[i] = INITIAL_VALUE[i];
            }
        }

        boolean hasFrame(int frame) {
            return frame >= 0 && frame < frameTotal;
        }

        boolean hasPixel(int x, int y) {
            return x >= 0 && x < columns && y >= 0 && y < rows;
        }

        boolean hasStake(int stake) {
            return stake >= 0 && stake < stakeTotal;
        }

        int dayOf(int frame) {
            return hasFrame(frame) ? frames[frame].day : NOT_FOUND;
        }

        int brightnessAt(int frame, int x, int y) {
            return hasFrame(frame) && hasPixel(x, y) ? frames[frame].brightness[MAX_WIDTH * y + x] : NOT_FOUND;
        }

        void paint(int frame, int x, int y, int brightness) {
            if (hasFrame(frame) && hasPixel(x, y)) {
                frames[frame].brightness[MAX_WIDTH * y + x] = brightness;
            }
        }

        /** Begins a frame behind the others and returns its index, or NOT_FOUND if there is no room. */
        int addFrame(int day) {
            if (frameTotal >= MAX_FRAMES) {
                return NOT_FOUND;
            }
            frames[frameTotal].day = day;
            frameTotal++;
            return frameTotal - 1;
        }

        /** Takes a frame out. It waits behind the others, the latest one first, for its undo. */
        void takeOut(int frame) {
            if (!hasFrame(frame)) {
                return;
            }
            Frame removed = frames[frame];
            for (int i = frame; i + 1 < frameTotal; i++) {
                frames[i] = frames[i + 1];
            }
            frameTotal--;
            frames[frameTotal] = removed;
        }

        /** Puts the frame that was taken out last back to its index. */
        void putBack(int frame) {
            if (frame < 0 || frame > frameTotal || frameTotal >= MAX_FRAMES) {
                return;
            }
            Frame removed = frames[frameTotal];
            for (int i = frameTotal; i > frame; i--) {
                frames[i] = frames[i - 1];
            }
            frames[frame] = removed;
            frameTotal++;
        }

        int contrastOf(int frame) {
            if (!hasFrame(frame)) {
                return 0;
            }
            int[] brightness = frames[frame].brightness;
            int least = MAX_BRIGHTNESS;
            int greatest = 0;
            for (int y = 0; y < rows && y < MAX_HEIGHT; y++) {
                for (int x = 0; x < columns && x < MAX_WIDTH; x++) {
                    least = Math.min(least, brightness[MAX_WIDTH * y + x]);
                    greatest = Math.max(greatest, brightness[MAX_WIDTH * y + x]);
                }
            }
            return greatest - least;
        }

        boolean usable(int frame) {
            return hasFrame(frame) && contrastOf(frame) >= settings[CONTRAST];
        }

        /** The first usable frame from an index on, or NOT_FOUND. */
        int usableFrom(int first) {
            for (int frame = Math.max(first, 0); frame < frameTotal; frame++) {
                if (usable(frame)) {
                    return frame;
                }
            }
            return NOT_FOUND;
        }

        /** The days of the gap that starts with a frame; 0 if none starts there. */
        int gapAfter(int frame) {
            int next = usable(frame) ? usableFrom(frame + 1) : NOT_FOUND;
            int days = next == NOT_FOUND ? 0 : dayOf(next) - dayOf(frame);
            return days > settings[GAP] ? days : 0;
        }

        int windowPixels() {
            int side = 2 * settings[WINDOW] + 1;
            return side * side;
        }

        boolean isWindowInside(int x, int y) {
            int radius = settings[WINDOW];
            return x >= radius && x < columns - radius && y >= radius && y < rows - radius;
        }

        /** The mismatch of two windows, both of which are inside. */
        int mismatch(int frame, int x, int y, int other, int otherX, int otherY) {
            if (!hasFrame(frame) || !hasFrame(other) || !isWindowInside(x, y) || !isWindowInside(otherX, otherY)) {
                return 0;
            }
            int[] one = frames[frame].brightness;
            int[] two = frames[other].brightness;
            int radius = settings[WINDOW];
            int sum = 0;
            for (int dy = -radius; dy <= radius; dy++) {
                int row = MAX_WIDTH * (y + dy) + x;
                int otherRow = MAX_WIDTH * (otherY + dy) + otherX;
                for (int dx = -radius; dx <= radius; dx++) {
                    sum += Math.abs(one[row + dx] - two[otherRow + dx]);
                }
            }
            return sum;
        }

        /** The error of a shift of a frame against the reference frame; NOT_FOUND if the shift does not count. */
        int errorOfShift(int reference, int frame, int shiftX, int shiftY) {
            int error = 0;
            for (int i = 0; i < controls.count; i++) {
                int x = controls.x[i];
                int y = controls.y[i];
                if (!isWindowInside(x, y) || !isWindowInside(x + shiftX, y + shiftY)) {
                    return NOT_FOUND;
                }
                error += mismatch(reference, x, y, frame, x + shiftX, y + shiftY);
            }
            return error;
        }
    }

    /** How the camera had shifted in each frame of a scene. */
    private static final class Orientation {
        int version = NEVER;
        int reference = NOT_FOUND;
        private final boolean[] oriented = new boolean[MAX_FRAMES];
        private final int[] xShifts = new int[MAX_FRAMES];
        private final int[] yShifts = new int[MAX_FRAMES];
        private final int[] errors = new int[MAX_FRAMES];

        boolean covers(int frame) {
            return frame >= 0 && frame < MAX_FRAMES && oriented[frame];
        }

        int xShiftOf(int frame) {
            return covers(frame) ? xShifts[frame] : 0;
        }

        int yShiftOf(int frame) {
            return covers(frame) ? yShifts[frame] : 0;
        }

        int errorOf(int frame) {
            return covers(frame) ? errors[frame] : NOT_FOUND;
        }

        /** Forgets all shifts and orients the reference frame, or none if it is NOT_FOUND. */
        void begin(int referenceFrame) {
            reference = referenceFrame;
            for (int frame = 0; frame < MAX_FRAMES; frame++) {
                oriented[frame] = false;
            }
            take(reference, 0, 0, 0);
        }

        /** Orients a usable frame. Goes through the shifts in the order in which ties of error and size are broken. */
        void findShift(Scene scene, int frame) {
            if (frame == reference) {
                return;
            }
            int reach = scene.settings[SHIFT];
            for (int sy = -reach; sy <= reach; sy++) {
                for (int sx = -reach; sx <= reach; sx++) {
                    int error = scene.errorOfShift(reference, frame, sx, sy);
                    if (error != NOT_FOUND && isBetter(frame, sx, sy, error)) {
                        take(frame, sx, sy, error);
                    }
                }
            }
        }

        private boolean isBetter(int frame, int sx, int sy, int error) {
            if (!covers(frame)) {
                return true;
            }
            int size = Math.abs(xShifts[frame]) + Math.abs(yShifts[frame]);
            return error < errors[frame] || error == errors[frame] && Math.abs(sx) + Math.abs(sy) < size;
        }

        private void take(int frame, int sx, int sy, int error) {
            if (frame >= 0 && frame < MAX_FRAMES) {
                oriented[frame] = true;
                xShifts[frame] = sx;
                yShifts[frame] = sy;
                errors[frame] = error;
            }
        }
    }

    /** The latest search for the match of a pixel. */
    private static final class Match {
        int candidates = 0;
        int x = 0;
        int y = 0;
        int least = 0;
        int second = 0;
        private int distance = 0;

        boolean exists() {
            return candidates > 0;
        }

        /** Goes through the candidates in the order in which ties of mismatch and distance are broken. */
        void search(Scene scene, Orientation orientation, int from, int fromX, int fromY, int to) {
            candidates = 0;
            if (!orientation.covers(from) || !orientation.covers(to) || !scene.isWindowInside(fromX, fromY)) {
                return;
            }
            int expectedX = fromX + orientation.xShiftOf(to) - orientation.xShiftOf(from);
            int expectedY = fromY + orientation.yShiftOf(to) - orientation.yShiftOf(from);
            int reach = scene.settings[RANGE];
            for (int dy = -reach; dy <= reach; dy++) {
                for (int dx = -reach; dx <= reach; dx++) {
                    int column = expectedX + dx;
                    int row = expectedY + dy;
                    if (scene.isWindowInside(column, row)) {
                        int mismatch = scene.mismatch(from, fromX, fromY, to, column, row);
                        consider(column, row, mismatch, Math.abs(dx) + Math.abs(dy));
                    }
                }
            }
        }

        private void consider(int column, int row, int mismatch, int away) {
            boolean better = candidates == 0 || mismatch < least || mismatch == least && away < distance;
            if (better) {
                second = least;
                x = column;
                y = row;
                least = mismatch;
                distance = away;
            } else if (candidates == 1 || mismatch < second) {
                second = mismatch;
            }
            candidates++;
        }
    }

    /** The frames in which a feature is tracked, in ascending order, and where it is in them. */
    private static final class Track {
        int version = NEVER;
        int count = 0;
        int lost = 0;
        /** The greatest mismatch with which the feature was tracked. */
        int worst = 0;
        final int[] trueX = new int[MAX_FRAMES];
        final int[] trueY = new int[MAX_FRAMES];
        private final int[] frames = new int[MAX_FRAMES];
        private final int[] days = new int[MAX_FRAMES];
        private final int[] columns = new int[MAX_FRAMES];
        private final int[] rows = new int[MAX_FRAMES];

        void trace(Scene scene, Orientation orientation, Match match, int feature, int tolerance) {
            count = 0;
            lost = 0;
            worst = 0;
            int reference = orientation.reference;
            if (reference == NOT_FOUND || !scene.features.has(feature)) {
                return;
            }
            add(scene, orientation, reference, scene.features.x[feature], scene.features.y[feature]);
            int limit = tolerance * scene.windowPixels();
            for (int frame = reference + 1; frame < scene.frameTotal; frame++) {
                if (orientation.covers(frame) && !findIn(frame, scene, orientation, match, limit)) {
                    lost++;
                }
            }
        }

        /** Looks for the feature in a further frame and checks backwards; tells whether it is tracked there. */
        private boolean findIn(int frame, Scene scene, Orientation orientation, Match match, int limit) {
            int last = count - 1;
            if (!hasEntry(last)) {
                return false;
            }
            match.search(scene, orientation, frames[last], columns[last], rows[last], frame);
            if (!match.exists() || match.least > limit) {
                return false;
            }
            int x = match.x;
            int y = match.y;
            int mismatch = match.least;
            match.search(scene, orientation, frame, x, y, frames[last]);
            if (!match.exists() || Math.abs(match.x - columns[last]) > 1 || Math.abs(match.y - rows[last]) > 1) {
                return false;
            }
            worst = Math.max(worst, mismatch);
            add(scene, orientation, frame, x, y);
            return true;
        }

        private void add(Scene scene, Orientation orientation, int frame, int x, int y) {
            if (count >= MAX_FRAMES) {
                return;
            }
            frames[count] = frame;
            days[count] = scene.dayOf(frame);
            columns[count] = x;
            rows[count] = y;
            trueX[count] = x - orientation.xShiftOf(frame);
            trueY[count] = y - orientation.yShiftOf(frame);
            count++;
        }

        private boolean hasEntry(int entry) {
            return entry >= 0 && entry < count;
        }

        private int entryOf(int frame) {
            for (int i = 0; i < count; i++) {
                if (frames[i] == frame) {
                    return i;
                }
            }
            return NOT_FOUND;
        }

        boolean isTrackedIn(int frame) {
            return entryOf(frame) != NOT_FOUND;
        }

        int columnIn(int frame) {
            int entry = entryOf(frame);
            return entry == NOT_FOUND ? NOT_FOUND : columns[entry];
        }

        int rowIn(int frame) {
            int entry = entryOf(frame);
            return entry == NOT_FOUND ? NOT_FOUND : rows[entry];
        }

        /** The day of an entry: segment i leads from entry i to entry i + 1. */
        int dayOf(int entry) {
            return hasEntry(entry) ? days[entry] : NOT_FOUND;
        }

        int segments() {
            return Math.max(count - 1, 0);
        }

        boolean hasSegment(int segment) {
            return segment >= 0 && segment < count - 1;
        }

        private int lengthOf(int segment, int scale) {
            if (!hasSegment(segment)) {
                return 0;
            }
            long dx = trueX[segment + 1] - trueX[segment];
            long dy = trueY[segment + 1] - trueY[segment];
            return squareRoot((dx * dx + dy * dy) * scale * scale);
        }

        int speedOf(int segment, int scale) {
            return quotient(lengthOf(segment, scale), dayOf(segment + 1) - dayOf(segment));
        }

        int averageSpeed(int scale) {
            int sum = 0;
            for (int i = 0; i < segments(); i++) {
                sum += lengthOf(i, scale);
            }
            return quotient(sum, dayOf(count - 1) - dayOf(0));
        }

        private boolean isFast(int segment, int scale, int threshold) {
            return hasSegment(segment) && speedOf(segment, scale) >= threshold;
        }

        private boolean beginsSurge(int segment, int scale, int threshold) {
            return isFast(segment, scale, threshold) && !isFast(segment - 1, scale, threshold);
        }

        int surges(int scale, int threshold) {
            int surges = 0;
            for (int i = 0; i < segments(); i++) {
                if (beginsSurge(i, scale, threshold)) {
                    surges++;
                }
            }
            return surges;
        }

        /** The entry with which a surge begins; NOT_FOUND if there is no such surge. */
        int surgeBegin(int surge, int scale, int threshold) {
            int surges = 0;
            for (int i = 0; i < segments(); i++) {
                if (beginsSurge(i, scale, threshold)) {
                    if (surges == surge) {
                        return i;
                    }
                    surges++;
                }
            }
            return NOT_FOUND;
        }

        /** The entry with which the surge ends that begins with an entry. */
        int surgeEnd(int begin, int scale, int threshold) {
            int end = begin;
            while (end < segments() && isFast(end, scale, threshold)) {
                end++;
            }
            return end;
        }

        /** A true coordinate on a day, in hundredths of a pixel; Integer.MIN_VALUE outside the track. */
        int interpolate(int[] coordinates, int day) {
            if (count == 0 || day < days[0] || day > days[count - 1]) {
                return Integer.MIN_VALUE;
            }
            int entry = count - 1;
            while (entry > 0 && days[entry] > day) {
                entry--;
            }
            int whole = 100 * coordinates[entry];
            int span = hasSegment(entry) ? days[entry + 1] - days[entry] : 0;
            if (span <= 0) {
                return whole;
            }
            int change = coordinates[entry + 1] - coordinates[entry];
            return whole + Math.floorDiv(100 * change * (day - days[entry]), span);
        }

        /** How far a true coordinate has moved from the first to the last entry. */
        int travelled(int[] coordinates) {
            return count == 0 ? 0 : coordinates[count - 1] - coordinates[0];
        }

        /** The distance to another feature in a frame in which both are tracked, in hundredths of a pixel. */
        int distanceTo(Track other, int frame) {
            int here = entryOf(frame);
            int there = other.entryOf(frame);
            if (here == NOT_FOUND || there == NOT_FOUND) {
                return NOT_FOUND;
            }
            long dx = trueX[here] - other.trueX[there];
            long dy = trueY[here] - other.trueY[there];
            return squareRoot(10000 * (dx * dx + dy * dy));
        }
    }

    /** A change, told by what it takes to undo it. */
    private static final class Change {
        static final int SETTING = 0, PIXEL = 1, FRAME_REMOVED = 2, FEATURE = 3, READING_ADDED = 4, READING_REMOVED = 5;

        int kind = SETTING;
        /** The setting, frame, feature or stake that was changed. */
        int index = 0;
        /** A column, or the day of a reading. */
        int x = 0;
        int y = 0;
        /** What was there before. */
        int value = 0;

        void revert(Scene scene) {
            switch (kind) {
                case SETTING:
                    if (isSetting(index)) {
                        scene.settings[index] = value;
                    }
                    break;
                case PIXEL:
                    scene.paint(index, x, y, value);
                    break;
                case FRAME_REMOVED:
                    scene.putBack(index);
                    break;
                case FEATURE:
                    scene.features.place(index, x, y);
                    break;
                default:
                    if (scene.hasStake(index)) {
                        revertReading(scene.stakes[index]);
                    }
                    break;
            }
        }

        private void revertReading(Stake stake) {
            if (kind == READING_ADDED) {
                stake.delete(x);
            } else {
                stake.insert(x, value);
            }
        }
    }

    /** The latest changes, in a ring: the oldest one gives way to a new one. */
    private static final class Journal {
        int count = 0;
        private int oldest = 0;
        private final Change[] changes = new Change[MAX_CHANGES];

        Journal() {
            for (int i = 0; i < MAX_CHANGES; i++) {
                changes[i] = new Change();
            }
        }

        void clear() {
            count = 0;
        }

        void add(int kind, int index, int x, int y, int value) {
            if (count == MAX_CHANGES) {
                oldest = (oldest + 1) % MAX_CHANGES;
            } else {
                count++;
            }
            Change change = latest();
            change.kind = kind;
            change.index = index;
            change.x = x;
            change.y = y;
            change.value = value;
        }

        /** Gives the latest change away; there is one. */
        Change takeLatest() {
            Change change = latest();
            count = Math.max(count - 1, 0);
            return change;
        }

        private Change latest() {
            return changes[Math.floorMod(oldest + count - 1, MAX_CHANGES)];
        }
    }

    /** The input buffer, and the token at which the reading of it stands. */
    private static final class Input {
        static final int END = 0, WORD = 1, NUMBER = 2, SEMICOLON = 3, OTHER = 4;
        /** Stands for every number beyond all ranges. */
        private static final int TOO_GREAT = 10000;
        private static final int NO_SIGN = -1;

        int size = 0;
        int kind = END;
        /** The position of the token; at the end, the length of the text. */
        int start = 0;
        /** The value of a number. */
        int value = 0;
        private final byte[] bytes = new byte[MAX_INPUT];
        private int length = 0;
        private int next = 0;

        void append(int four) {
            for (int shift = 24; shift >= 0 && size < MAX_INPUT; shift -= 8) {
                bytes[size] = (byte) (four >> shift);
                size++;
            }
        }

        void begin(int textLength) {
            length = textLength;
            next = 0;
            advance();
        }

        /** Goes on to the next token. */
        void advance() {
            while (next < length && isBlank(signAt(next))) {
                next++;
            }
            start = next;
            value = 0;
            kind = kindOf(signAt(start));
            if (kind == SEMICOLON || kind == OTHER) {
                next++;
                return;
            }
            while (next < length && kindOf(signAt(next)) == kind) {
                value = kind == NUMBER ? Math.min(10 * value + signAt(next) - '0', TOO_GREAT) : 0;
                next++;
            }
        }

        boolean isWord(String word) {
            if (kind != WORD || tokenLength() != word.length()) {
                return false;
            }
            for (int i = 0; i < word.length(); i++) {
                if (signAt(start + i) != word.charAt(i)) {
                    return false;
                }
            }
            return true;
        }

        int tokenLength() {
            return next - start;
        }

        /** A digit of a number, counted from the left. */
        int digit(int index) {
            return signAt(start + index) - '0';
        }

        private int signAt(int position) {
            boolean inText = position >= 0 && position < length && position < MAX_INPUT;
            return inText ? bytes[position] & 255 : NO_SIGN;
        }

        private static boolean isBlank(int sign) {
            return sign == ' ' || sign == '\n';
        }

        /** The kind of the token that begins with a sign. */
        private static int kindOf(int sign) {
            if (sign >= 'a' && sign <= 'z') {
                return WORD;
            }
            if (sign >= '0' && sign <= '9') {
                return NUMBER;
            }
            return sign == NO_SIGN ? END : sign == ';' ? SEMICOLON : OTHER;
        }
    }

    /** Reads the text of the input buffer into a draft. After an error, the input stands at its token. */
    private static final class Loader {
        private static final int OK = 0;

        final Input input = new Input();
        private Scene draft = new Scene();
        private final boolean[] given = new boolean[SETTINGS];

        /** Gives the draft away and takes a scene that is no longer used, to save making a new one. */
        Scene exchange(Scene used) {
            Scene read = draft;
            draft = used;
            return read;
        }

        /** Returns the number of statements or an error code. */
        int readText(int length) {
            draft.reset();
            for (int i = 0; i < SETTINGS; i++) {
                given[i] = false;
            }
            input.begin(length);
            int statements = 0;
            while (input.kind != Input.END && statements < length) {
                int code = readStatement(statements == 0);
                if (code != OK) {
                    return code;
                }
                if (input.kind != Input.SEMICOLON) {
                    return SYNTAX_ERROR;
                }
                input.advance();
                statements++;
            }
            return statements;
        }

        /** Reads a statement up to the token behind it, which must be the semicolon. */
        private int readStatement(boolean first) {
            if (input.isWord("size")) {
                return first ? readSize() : ORDER_ERROR;
            }
            if (input.isWord("frame")) {
                return draft.frameTotal < MAX_FRAMES ? readFrame() : COUNT_ERROR;
            }
            if (input.isWord("control")) {
                return readPoint(draft.controls);
            }
            if (input.isWord("feature")) {
                return readPoint(draft.features);
            }
            if (input.isWord("stake")) {
                return draft.stakeTotal < MAX_STAKES ? readStake() : COUNT_ERROR;
            }
            return input.isWord("set") ? readSetting() : SYNTAX_ERROR;
        }

        private int readSize() {
            int code = readNumber(MIN_WIDTH, MAX_WIDTH);
            if (code != OK) {
                return code;
            }
            draft.columns = input.value;
            code = readNumber(MIN_HEIGHT, MAX_HEIGHT);
            if (code != OK) {
                return code;
            }
            draft.rows = input.value;
            input.advance();
            return OK;
        }

        private int readFrame() {
            int code = readNumber(0, MAX_DAY);
            if (code != OK) {
                return code;
            }
            if (input.value <= draft.dayOf(draft.frameTotal - 1)) {
                return ORDER_ERROR;
            }
            int frame = draft.addFrame(input.value);
            int rows = 0;
            input.advance();
            while (input.kind == Input.NUMBER && rows <= draft.rows) {
                if (input.tokenLength() != draft.columns) {
                    return RANGE_ERROR;
                }
                if (rows == draft.rows) {
                    return COUNT_ERROR;
                }
                paintRow(frame, rows);
                rows++;
                input.advance();
            }
            if (input.kind != Input.SEMICOLON || rows == 0) {
                return SYNTAX_ERROR;
            }
            return rows < draft.rows ? COUNT_ERROR : OK;
        }

        private void paintRow(int frame, int y) {
            for (int x = 0; x < draft.columns; x++) {
                draft.paint(frame, x, y, input.digit(x));
            }
        }

        private int readPoint(Points points) {
            if (points.isFull()) {
                return COUNT_ERROR;
            }
            int code = readNumber(0, draft.columns - 1);
            if (code != OK) {
                return code;
            }
            int x = input.value;
            code = readNumber(0, draft.rows - 1);
            if (code != OK) {
                return code;
            }
            points.add(x, input.value);
            input.advance();
            return OK;
        }

        private int readStake() {
            Stake stake = draft.stakes[draft.stakeTotal];
            draft.stakeTotal++;
            stake.count = 0;
            input.advance();
            int code = readReading(stake);
            // One reading more than there may be, so that the day of a ninth one is reported.
            for (int i = 0; i < MAX_READINGS && code == OK && input.kind == Input.NUMBER; i++) {
                code = readReading(stake);
            }
            return code;
        }

        /** Reads a reading whose day is the token at which the input stands, and goes on behind it. */
        private int readReading(Stake stake) {
            int code = checkNumber(0, MAX_DAY);
            if (code != OK) {
                return code;
            }
            int day = input.value;
            if (stake.count > 0 && day <= stake.days[stake.count - 1]) {
                return ORDER_ERROR;
            }
            if (stake.count >= MAX_READINGS) {
                return COUNT_ERROR;
            }
            input.advance();
            code = checkNumber(0, MAX_LENGTH);
            if (code != OK) {
                return code;
            }
            stake.insert(day, input.value);
            input.advance();
            return OK;
        }

        private int readSetting() {
            input.advance();
            int setting = settingNamed();
            if (!isSetting(setting)) {
                return SYNTAX_ERROR;
            }
            if (given[setting]) {
                return DUPLICATE_ERROR;
            }
            given[setting] = true;
            int code = readNumber(LEAST_VALUE[setting], GREATEST_VALUE[setting]);
            if (code != OK) {
                return code;
            }
            draft.settings[setting] = input.value;
            input.advance();
            return OK;
        }

        private int settingNamed() {
            return input.isWord("window") ? WINDOW
                : input.isWord("range") ? RANGE
                : input.isWord("shift") ? SHIFT
                : input.isWord("contrast") ? CONTRAST
                : input.isWord("tolerance") ? TOLERANCE
                : input.isWord("scale") ? SCALE
                : input.isWord("gap") ? GAP
                : input.isWord("surge") ? SURGE
                : NOT_FOUND;
        }

        private int readNumber(int least, int greatest) {
            input.advance();
            return checkNumber(least, greatest);
        }

        private int checkNumber(int least, int greatest) {
            if (input.kind != Input.NUMBER) {
                return SYNTAX_ERROR;
            }
            return isBetween(input.value, least, greatest) ? OK : RANGE_ERROR;
        }
    }
}
