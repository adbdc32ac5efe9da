import java.math.BigInteger;
import java.util.ArrayDeque;
import java.util.ArrayList;
import java.util.Comparator;
import java.util.Deque;
import java.util.List;
import java.util.Map;
import java.util.TreeMap;

/**
 * A second, slow analyzer, written from the document alone, to compare answers with: it works everything out anew
 * at each call and keeps whole copies of the state for undo.
 */
public final class Model {
    private static final int[][] RANGES = {
        {0, 2, 1}, {1, 4, 2}, {0, 3, 1}, {0, 9, 2}, {0, 9, 2}, {1, 1000, 100}, {1, 999, 10}, {0, 9999, 50}
    };

    private static final class State {
        int width = 12;
        int height = 8;
        int[] settings = new int[8];
        List<Integer> days = new ArrayList<>();
        List<int[][]> images = new ArrayList<>();
        List<int[]> controls = new ArrayList<>();
        List<int[]> features = new ArrayList<>();
        List<TreeMap<Integer, Integer>> stakes = new ArrayList<>();

        State() {
            for (int i = 0; i < 8; i++) {
                settings[i] = RANGES[i][2];
            }
        }

        State copy() {
            State other = new State();
            other.width = width;
            other.height = height;
            other.settings = settings.clone();
            other.days.addAll(days);
            for (int[][] image : images) {
                int[][] rows = new int[image.length][];
                for (int y = 0; y < image.length; y++) {
                    rows[y] = image[y].clone();
                }
                other.images.add(rows);
            }
            for (int[] point : controls) {
                other.controls.add(point.clone());
            }
            for (int[] point : features) {
                other.features.add(point.clone());
            }
            for (TreeMap<Integer, Integer> stake : stakes) {
                other.stakes.add(new TreeMap<>(stake));
            }
            return other;
        }
    }

    private record Token(char kind, int start, String text) {
    }

    private record Shift(int x, int y, int error) {
        int size() {
            return Math.abs(x) + Math.abs(y);
        }
    }

    private record Candidate(int x, int y, int mismatch, int distance) {
    }

    private record Place(int frame, int day, int x, int y, int trueX, int trueY) {
    }

    private record Surge(int start, int end) {
    }

    private static final class TextError extends RuntimeException {
        private static final long serialVersionUID = 1L;
        final int code;

        TextError(int code) {
            this.code = code;
        }
    }

    private State state = new State();
    private final Deque<State> history = new ArrayDeque<>();
    private final StringBuilder buffer = new StringBuilder();
    private int position = -1;

    // Text

    private List<Token> tokens;
    private int at;

    public int feed(int a, int b, int c, int d, int e) {
        if (buffer.length() + 20 > 1400) {
            return -3;
        }
        for (int word : new int[] {a, b, c, d, e}) {
            buffer.append((char) (word >>> 24)).append((char) (word >>> 16 & 255));
            buffer.append((char) (word >>> 8 & 255)).append((char) (word & 255));
        }
        return buffer.length();
    }

    public int load(int length) {
        if (length < 0 || length > buffer.length()) {
            return -2;
        }
        String text = buffer.substring(0, length);
        buffer.setLength(0);
        tokens = tokenize(text);
        at = 0;
        try {
            State read = new State();
            int statements = parse(read);
            state = read;
            history.clear();
            position = -1;
            return statements;
        } catch (TextError error) {
            position = tokens.get(at).start;
            return error.code;
        }
    }

    private static List<Token> tokenize(String text) {
        List<Token> list = new ArrayList<>();
        java.util.regex.Matcher matcher = java.util.regex.Pattern.compile("[a-z]+|[0-9]+|[^ \\n]").matcher(text);
        while (matcher.find()) {
            char first = matcher.group().charAt(0);
            char kind = first >= 'a' && first <= 'z' ? 'w' : first >= '0' && first <= '9' ? 'n' : first == ';' ? ';' : '?';
            list.add(new Token(kind, matcher.start(), matcher.group()));
        }
        list.add(new Token('$', text.length(), ""));
        return list;
    }

    private Token now() {
        return tokens.get(at);
    }

    private static void fail(boolean condition, int code) {
        if (condition) {
            throw new TextError(code);
        }
    }

    private BigInteger number() {
        fail(now().kind != 'n', -11);
        return new BigInteger(now().text);
    }

    private int number(int least, int greatest) {
        BigInteger value = number();
        fail(value.compareTo(BigInteger.valueOf(least)) < 0 || value.compareTo(BigInteger.valueOf(greatest)) > 0, -12);
        return value.intValue();
    }

    private int parse(State read) {
        boolean[] given = new boolean[8];
        int statements = 0;
        for (; now().kind != '$'; statements++) {
            String word = now().text;
            switch (word) {
                case "size":
                    fail(statements > 0, -14);
                    at++;
                    read.width = number(4, 12);
                    at++;
                    read.height = number(4, 10);
                    at++;
                    break;
                case "frame":
                    parseFrame(read);
                    break;
                case "control":
                    parsePoint(read, read.controls, 4);
                    break;
                case "feature":
                    parsePoint(read, read.features, 6);
                    break;
                case "stake":
                    parseStake(read);
                    break;
                case "set":
                    at++;
                    int setting = List.of("window", "range", "shift", "contrast", "tolerance", "scale", "gap", "surge")
                        .indexOf(now().text);
                    fail(setting < 0, -11);
                    fail(given[setting], -13);
                    given[setting] = true;
                    at++;
                    read.settings[setting] = number(RANGES[setting][0], RANGES[setting][1]);
                    at++;
                    break;
                default:
                    fail(true, -11);
            }
            fail(now().kind != ';', -11);
            at++;
        }
        return statements;
    }

    private void parseFrame(State read) {
        fail(read.images.size() == 6, -15);
        at++;
        int day = number(0, 9999);
        fail(!read.days.isEmpty() && day <= read.days.get(read.days.size() - 1), -14);
        at++;
        int[][] image = new int[read.height][read.width];
        int rows = 0;
        do {
            number();
            fail(now().text.length() != read.width, -12);
            fail(rows == read.height, -15);
            for (int x = 0; x < read.width; x++) {
                image[rows][x] = now().text.charAt(x) - '0';
            }
            rows++;
            at++;
        } while (now().kind == 'n');
        fail(now().kind == ';' && rows < read.height, -15);
        read.days.add(day);
        read.images.add(image);
    }

    private void parsePoint(State read, List<int[]> points, int limit) {
        fail(points.size() == limit, -15);
        at++;
        int x = number(0, read.width - 1);
        at++;
        int y = number(0, read.height - 1);
        at++;
        points.add(new int[] {x, y});
    }

    private void parseStake(State read) {
        fail(read.stakes.size() == 3, -15);
        at++;
        TreeMap<Integer, Integer> stake = new TreeMap<>();
        do {
            int day = number(0, 9999);
            fail(!stake.isEmpty() && day <= stake.lastKey(), -14);
            fail(stake.size() == 8, -15);
            at++;
            stake.put(day, number(0, 9999));
            at++;
        } while (now().kind == 'n');
        read.stakes.add(stake);
    }

    public int errorPosition() {
        return position;
    }

    // Counts and settings

    public int width() {
        return state.width;
    }

    public int height() {
        return state.height;
    }

    public int frameCount() {
        return state.images.size();
    }

    public int controlCount() {
        return state.controls.size();
    }

    public int featureCount() {
        return state.features.size();
    }

    public int stakeCount() {
        return state.stakes.size();
    }

    public int getSetting(int setting) {
        return setting < 0 || setting > 7 ? -2 : state.settings[setting];
    }

    public int setSetting(int setting, int value) {
        if (setting < 0 || setting > 7 || value < RANGES[setting][0] || value > RANGES[setting][1]) {
            return -2;
        }
        keep();
        int previous = state.settings[setting];
        state.settings[setting] = value;
        return previous;
    }

    private void keep() {
        history.push(state.copy());
        if (history.size() > 10) {
            history.removeLast();
        }
    }

    private static void check(boolean valid) {
        if (!valid) {
            throw new IndexOutOfBoundsException();
        }
    }

    private boolean frameExists(int frame) {
        return frame >= 0 && frame < state.images.size();
    }

    private boolean inImage(int x, int y) {
        return x >= 0 && x < state.width && y >= 0 && y < state.height;
    }

    // Frames and pixels

    public int frameDay(int frame) {
        check(frameExists(frame));
        return state.days.get(frame);
    }

    public int pixel(int frame, int x, int y) {
        check(frameExists(frame) && inImage(x, y));
        return state.images.get(frame)[y][x];
    }

    public boolean setPixel(int frame, int x, int y, int brightness) {
        if (!frameExists(frame) || !inImage(x, y) || brightness < 0 || brightness > 9) {
            return false;
        }
        keep();
        state.images.get(frame)[y][x] = brightness;
        return true;
    }

    public int removeFrame(int frame) {
        if (!frameExists(frame)) {
            return -1;
        }
        keep();
        state.days.remove(frame);
        state.images.remove(frame);
        return state.images.size();
    }

    public int contrast(int frame) {
        check(frameExists(frame));
        int greatest = -1;
        int least = 10;
        for (int[] row : state.images.get(frame)) {
            for (int value : row) {
                greatest = Math.max(greatest, value);
                least = Math.min(least, value);
            }
        }
        return greatest - least;
    }

    public boolean isUsable(int frame) {
        return contrast(frame) >= state.settings[3];
    }

    private List<Integer> usableFrames() {
        List<Integer> list = new ArrayList<>();
        for (int i = 0; i < state.images.size(); i++) {
            if (isUsable(i)) {
                list.add(i);
            }
        }
        return list;
    }

    public int referenceFrame() {
        return usableFrames().isEmpty() ? -1 : usableFrames().get(0);
    }

    // Windows and orientation

    private boolean windowFits(int x, int y) {
        int w = state.settings[0];
        return inImage(x - w, y - w) && inImage(x - w, y + w) && inImage(x + w, y - w) && inImage(x + w, y + w);
    }

    private int mismatch(int[][] a, int ax, int ay, int[][] b, int bx, int by) {
        int w = state.settings[0];
        int sum = 0;
        for (int i = -w; i <= w; i++) {
            for (int j = -w; j <= w; j++) {
                sum += Math.abs(a[ay + j][ax + i] - b[by + j][bx + i]);
            }
        }
        return sum;
    }

    /** The shift of a frame, or null if it is not oriented. */
    private Shift shift(int frame) {
        if (!isUsable(frame)) {
            return null;
        }
        int reference = referenceFrame();
        if (frame == reference) {
            return new Shift(0, 0, 0);
        }
        int most = state.settings[2];
        List<Shift> shifts = new ArrayList<>();
        for (int sx = -most; sx <= most; sx++) {
            for (int sy = -most; sy <= most; sy++) {
                int error = 0;
                boolean counts = true;
                for (int[] point : state.controls) {
                    counts &= windowFits(point[0], point[1]) && windowFits(point[0] + sx, point[1] + sy);
                    if (counts) {
                        error += mismatch(state.images.get(reference), point[0], point[1], state.images.get(frame),
                            point[0] + sx, point[1] + sy);
                    }
                }
                if (counts) {
                    shifts.add(new Shift(sx, sy, error));
                }
            }
        }
        return shifts.stream().min(Comparator.comparingInt(Shift::error).thenComparingInt(Shift::size)
            .thenComparingInt(Shift::y).thenComparingInt(Shift::x)).orElse(null);
    }

    public boolean isOriented(int frame) {
        check(frameExists(frame));
        return shift(frame) != null;
    }

    private Shift neededShift(int frame) {
        check(frameExists(frame));
        Shift shift = shift(frame);
        if (shift == null) {
            throw new IllegalStateException();
        }
        return shift;
    }

    public int shiftX(int frame) {
        return neededShift(frame).x;
    }

    public int shiftY(int frame) {
        return neededShift(frame).y;
    }

    public int shiftError(int frame) {
        check(frameExists(frame));
        Shift shift = shift(frame);
        return shift == null ? -1 : shift.error;
    }

    // Matches

    /** The candidates, the best first; none if there is no match. */
    private List<Candidate> candidates(int from, int x, int y, int to) {
        List<Candidate> list = new ArrayList<>();
        Shift first = shift(from);
        Shift second = shift(to);
        if (first == null || second == null || !windowFits(x, y)) {
            return list;
        }
        int expectedX = x + second.x - first.x;
        int expectedY = y + second.y - first.y;
        for (int row = 0; row < state.height; row++) {
            for (int column = 0; column < state.width; column++) {
                int dx = Math.abs(column - expectedX);
                int dy = Math.abs(row - expectedY);
                if (Math.max(dx, dy) <= state.settings[1] && windowFits(column, row)) {
                    list.add(new Candidate(column, row,
                        mismatch(state.images.get(from), x, y, state.images.get(to), column, row), dx + dy));
                }
            }
        }
        list.sort(Comparator.comparingInt(Candidate::mismatch).thenComparingInt(Candidate::distance)
            .thenComparingInt(Candidate::y).thenComparingInt(Candidate::x));
        return list;
    }

    private List<Candidate> checkedCandidates(int from, int x, int y, int to) {
        check(frameExists(from) && frameExists(to) && inImage(x, y));
        return candidates(from, x, y, to);
    }

    public int match(int from, int x, int y, int to) {
        List<Candidate> list = checkedCandidates(from, x, y, to);
        return list.isEmpty() ? -1 : 16 * list.get(0).x + list.get(0).y;
    }

    public int matchError(int from, int x, int y, int to) {
        List<Candidate> list = checkedCandidates(from, x, y, to);
        return list.isEmpty() ? -1 : list.get(0).mismatch;
    }

    public int matchMargin(int from, int x, int y, int to) {
        List<Candidate> list = checkedCandidates(from, x, y, to);
        return list.size() < 2 ? -1 : list.get(1).mismatch - list.get(0).mismatch;
    }

    // Tracks

    private boolean featureExists(int feature) {
        return feature >= 0 && feature < state.features.size();
    }

    private List<Place> track(int feature) {
        check(featureExists(feature));
        List<Place> track = new ArrayList<>();
        int area = (2 * state.settings[0] + 1) * (2 * state.settings[0] + 1);
        for (int frame : usableFrames()) {
            Shift shift = shift(frame);
            if (track.isEmpty()) {
                int[] point = state.features.get(feature);
                track.add(new Place(frame, state.days.get(frame), point[0], point[1], point[0], point[1]));
            } else if (shift != null) {
                Place p = track.get(track.size() - 1);
                List<Candidate> forth = candidates(p.frame, p.x, p.y, frame);
                if (!forth.isEmpty() && forth.get(0).mismatch <= state.settings[4] * area) {
                    int x = forth.get(0).x;
                    int y = forth.get(0).y;
                    List<Candidate> back = candidates(frame, x, y, p.frame);
                    if (!back.isEmpty() && Math.abs(back.get(0).x - p.x) <= 1 && Math.abs(back.get(0).y - p.y) <= 1) {
                        track.add(new Place(frame, state.days.get(frame), x, y, x - shift.x, y - shift.y));
                    }
                }
            }
        }
        return track;
    }

    private Place place(int feature, int frame) {
        check(featureExists(feature) && frameExists(frame));
        for (Place place : track(feature)) {
            if (place.frame == frame) {
                return place;
            }
        }
        return null;
    }

    public int trackX(int feature, int frame) {
        Place place = place(feature, frame);
        return place == null ? -1 : place.x;
    }

    public int trackY(int feature, int frame) {
        Place place = place(feature, frame);
        return place == null ? -1 : place.y;
    }

    private int orientedCount() {
        int count = 0;
        for (int i = 0; i < state.images.size(); i++) {
            count += shift(i) == null ? 0 : 1;
        }
        return count;
    }

    public int lostCount(int feature) {
        return orientedCount() - track(feature).size();
    }

    public int loopError(int feature, int b, int c) {
        check(featureExists(feature) && frameExists(b) && frameExists(c));
        int reference = referenceFrame();
        if (reference < 0) {
            return -1;
        }
        int[] start = state.features.get(feature);
        int[] way = {reference, b, c, reference};
        int x = start[0];
        int y = start[1];
        for (int i = 0; i < 3; i++) {
            List<Candidate> list = candidates(way[i], x, y, way[i + 1]);
            if (list.isEmpty()) {
                return -1;
            }
            x = list.get(0).x;
            y = list.get(0).y;
        }
        return Math.abs(x - start[0]) + Math.abs(y - start[1]);
    }

    public int closedLoops(int feature) {
        check(featureExists(feature));
        int closed = 0;
        for (int b = 0; b < state.images.size(); b++) {
            for (int c = b + 1; c < state.images.size(); c++) {
                if (b > referenceFrame() && shift(b) != null && shift(c) != null && loopError(feature, b, c) == 0) {
                    closed++;
                }
            }
        }
        return closed;
    }

    public int leastTolerance(int feature) {
        check(featureExists(feature));
        int tolerance = state.settings[4];
        int least = -1;
        for (int t = 9; t >= 0; t--) {
            state.settings[4] = t;
            if (orientedCount() > 0 && lostCount(feature) == 0) {
                least = t;
            }
        }
        state.settings[4] = tolerance;
        return least;
    }

    // Speeds and surges

    public int segmentCount(int feature) {
        return Math.max(0, track(feature).size() - 1);
    }

    private static long root(long square) {
        return BigInteger.valueOf(square).sqrt().longValue();
    }

    private static long length(Place a, Place b, long scale) {
        long dx = b.trueX - a.trueX;
        long dy = b.trueY - a.trueY;
        return root((dx * dx + dy * dy) * scale * scale);
    }

    public int speed(int feature, int segment) {
        List<Place> track = track(feature);
        check(segment >= 0 && segment < track.size() - 1);
        Place a = track.get(segment);
        Place b = track.get(segment + 1);
        return (int) (length(a, b, state.settings[5]) / (b.day - a.day));
    }

    public int meanSpeed(int feature) {
        return meanSpeedWithScale(feature, state.settings[5]);
    }

    public int meanSpeedWithScale(int feature, int scale) {
        List<Place> track = track(feature);
        if (scale < 1 || scale > 1000) {
            return -2;
        }
        if (track.size() < 2) {
            return 0;
        }
        long sum = 0;
        for (int i = 0; i + 1 < track.size(); i++) {
            sum += length(track.get(i), track.get(i + 1), scale);
        }
        return (int) (sum / (track.get(track.size() - 1).day - track.get(0).day));
    }

    public int fastestFeature() {
        int best = -1;
        for (int i = state.features.size() - 1; i >= 0; i--) {
            if (segmentCount(i) > 0 && (best < 0 || meanSpeed(i) >= meanSpeed(best))) {
                best = i;
            }
        }
        return best;
    }

    private List<Surge> surges(int feature) {
        List<Surge> list = new ArrayList<>();
        List<Place> track = track(feature);
        int start = -1;
        for (int i = 0; i < track.size(); i++) {
            boolean fast = i + 1 < track.size() && speed(feature, i) >= state.settings[7];
            if (fast && start < 0) {
                start = i;
            } else if (!fast && start >= 0) {
                list.add(new Surge(track.get(start).day, track.get(i).day));
                start = -1;
            }
        }
        return list;
    }

    public int surgeCount(int feature) {
        return surges(feature).size();
    }

    public int surgeStart(int feature, int surge) {
        List<Surge> list = surges(feature);
        return surge < 0 || surge >= list.size() ? -1 : list.get(surge).start;
    }

    public int surgeDays(int feature, int surge) {
        List<Surge> list = surges(feature);
        return surge < 0 || surge >= list.size() ? -1 : list.get(surge).end - list.get(surge).start;
    }

    // Positions

    private int position(int feature, int day, boolean vertical) {
        List<Place> track = track(feature);
        for (int i = 0; i < track.size(); i++) {
            Place a = track.get(i);
            int from = vertical ? a.trueY : a.trueX;
            if (a.day == day) {
                return 100 * from;
            }
            if (i + 1 < track.size() && a.day < day && day < track.get(i + 1).day) {
                Place b = track.get(i + 1);
                int to = vertical ? b.trueY : b.trueX;
                return 100 * from + Math.floorDiv(100 * (to - from) * (day - a.day), b.day - a.day);
            }
        }
        return Integer.MIN_VALUE;
    }

    public int positionX(int feature, int day) {
        return position(feature, day, false);
    }

    public int positionY(int feature, int day) {
        return position(feature, day, true);
    }

    public boolean moveFeature(int feature, int x, int y) {
        if (!featureExists(feature) || !inImage(x, y)) {
            return false;
        }
        keep();
        state.features.set(feature, new int[] {x, y});
        return true;
    }

    // Gaps

    private List<int[]> gaps() {
        List<int[]> list = new ArrayList<>();
        List<Integer> usable = usableFrames();
        for (int i = 1; i < usable.size(); i++) {
            int start = state.days.get(usable.get(i - 1));
            int days = state.days.get(usable.get(i)) - start;
            if (days > state.settings[6]) {
                list.add(new int[] {start, days});
            }
        }
        return list;
    }

    public int gapCount() {
        return gaps().size();
    }

    public int gapStart(int gap) {
        return gap < 0 || gap >= gaps().size() ? -1 : gaps().get(gap)[0];
    }

    public int gapDays(int gap) {
        return gap < 0 || gap >= gaps().size() ? -1 : gaps().get(gap)[1];
    }

    public int longestGap() {
        return gaps().stream().mapToInt(gap -> gap[1]).max().orElse(0);
    }

    // Stakes

    private boolean stakeExists(int stake) {
        return stake >= 0 && stake < state.stakes.size();
    }

    private List<Map.Entry<Integer, Integer>> readings(int stake) {
        check(stakeExists(stake));
        return new ArrayList<>(state.stakes.get(stake).entrySet());
    }

    public int readingCount(int stake) {
        return readings(stake).size();
    }

    public int readingDay(int stake, int reading) {
        check(reading >= 0 && reading < readings(stake).size());
        return readings(stake).get(reading).getKey();
    }

    public int readingLength(int stake, int reading) {
        check(reading >= 0 && reading < readings(stake).size());
        return readings(stake).get(reading).getValue();
    }

    public int addReading(int stake, int day, int length) {
        if (!stakeExists(stake)) {
            return -1;
        }
        if (day < 0 || day > 9999 || length < 0 || length > 9999 || state.stakes.get(stake).containsKey(day)) {
            return -2;
        }
        if (state.stakes.get(stake).size() == 8) {
            return -3;
        }
        keep();
        state.stakes.get(stake).put(day, length);
        return state.stakes.get(stake).size();
    }

    public int removeReading(int stake, int day) {
        if (!stakeExists(stake) || !state.stakes.get(stake).containsKey(day)) {
            return -1;
        }
        keep();
        state.stakes.get(stake).remove(day);
        return state.stakes.get(stake).size();
    }

    public int drillCount(int stake) {
        int count = 0;
        for (int i = 0; i + 1 < readings(stake).size(); i++) {
            count += readingLength(stake, i + 1) < readingLength(stake, i) ? 1 : 0;
        }
        return count;
    }

    private long intervalMelt(int stake, int i) {
        int earlier = readingLength(stake, i);
        int later = readingLength(stake, i + 1);
        return later < earlier ? later : later - earlier;
    }

    public int meltTo(int stake, int day) {
        List<Map.Entry<Integer, Integer>> list = readings(stake);
        long before = 0;
        for (int i = 0; i < list.size(); i++) {
            int start = list.get(i).getKey();
            if (day == start) {
                return (int) (100 * before);
            }
            if (i + 1 < list.size()) {
                int end = list.get(i + 1).getKey();
                long melt = intervalMelt(stake, i);
                if (start < day && day < end) {
                    return (int) Math.floorDiv(100 * (before * (end - start) + melt * (day - start)), (long) (end - start));
                }
                before += melt;
            }
        }
        return -1;
    }

    public int melt(int stake, int from, int to) {
        check(stakeExists(stake));
        if (from > to) {
            return -2;
        }
        int a = meltTo(stake, from);
        int b = meltTo(stake, to);
        return a < 0 || b < 0 ? -1 : b - a;
    }

    public int meanMelt(int from, int to) {
        if (from > to) {
            return -2;
        }
        long sum = 0;
        int count = 0;
        for (int i = 0; i < state.stakes.size(); i++) {
            if (melt(i, from, to) >= 0) {
                sum += melt(i, from, to);
                count++;
            }
        }
        return count == 0 ? -1 : (int) (sum / count);
    }

    public int warmestInterval(int stake) {
        int best = -1;
        BigInteger bestMelt = BigInteger.ZERO;
        BigInteger bestDays = BigInteger.ONE;
        for (int i = 0; i + 1 < readings(stake).size(); i++) {
            BigInteger melt = BigInteger.valueOf(intervalMelt(stake, i));
            BigInteger days = BigInteger.valueOf(readingDay(stake, i + 1) - readingDay(stake, i));
            if (best < 0 || melt.multiply(bestDays).compareTo(bestMelt.multiply(days)) > 0) {
                best = i;
                bestMelt = melt;
                bestDays = days;
            }
        }
        return best;
    }

    // Undo

    public int undo() {
        if (history.isEmpty()) {
            return -1;
        }
        state = history.pop();
        return history.size();
    }

    public int undoCount() {
        return history.size();
    }

    // The rest

    public int registered(int frame, int x, int y) {
        check(frameExists(frame) && inImage(x, y));
        Shift shift = shift(frame);
        if (shift == null || !inImage(x + shift.x, y + shift.y)) {
            return -1;
        }
        return pixel(frame, x + shift.x, y + shift.y);
    }

    public int changedPixels(int a, int b, int difference) {
        check(frameExists(a) && frameExists(b));
        if (difference < 1 || difference > 9) {
            return -2;
        }
        if (shift(a) == null || shift(b) == null) {
            return -1;
        }
        int count = 0;
        for (int x = 0; x < state.width; x++) {
            for (int y = 0; y < state.height; y++) {
                int inA = registered(a, x, y);
                int inB = registered(b, x, y);
                count += inA >= 0 && inB >= 0 && Math.abs(inA - inB) >= difference ? 1 : 0;
            }
        }
        return count;
    }

    public int snowLine(int frame, int brightness) {
        check(frameExists(frame));
        if (brightness < 0 || brightness > 9) {
            return -2;
        }
        int y = 0;
        for (int[] row : state.images.get(frame)) {
            long bright = java.util.Arrays.stream(row).filter(value -> value >= brightness).count();
            if (bright < state.width / 2.0) {
                return y;
            }
            y++;
        }
        return y;
    }

    public int strain(int first, int second) {
        check(featureExists(first) && featureExists(second));
        List<Long> distances = new ArrayList<>();
        for (int frame = 0; frame < state.images.size(); frame++) {
            Place a = place(first, frame);
            Place b = place(second, frame);
            if (a != null && b != null) {
                long dx = a.trueX - b.trueX;
                long dy = a.trueY - b.trueY;
                distances.add(root(10000 * (dx * dx + dy * dy)));
            }
        }
        return distances.size() < 2 ? Integer.MIN_VALUE : (int) (distances.get(distances.size() - 1) - distances.get(0));
    }

    public int direction(int feature) {
        List<Place> track = track(feature);
        if (track.isEmpty()) {
            return -1;
        }
        int dx = track.get(track.size() - 1).trueX - track.get(0).trueX;
        int dy = track.get(track.size() - 1).trueY - track.get(0).trueY;
        if (dx == 0 && dy == 0) {
            return -1;
        }
        boolean horizontal = Math.abs(dx) > 2 * Math.abs(dy);
        boolean vertical = Math.abs(dy) > 2 * Math.abs(dx);
        int[][] octants = {{5, 6, 7}, {4, -1, 0}, {3, 2, 1}};
        return octants[vertical || !horizontal ? Integer.signum(dy) + 1 : 1][
            horizontal || !vertical ? Integer.signum(dx) + 1 : 1];
    }

    public int meltInSegment(int feature, int segment) {
        List<Place> track = track(feature);
        check(segment >= 0 && segment < track.size() - 1);
        return meanMelt(track.get(segment).day, track.get(segment + 1).day);
    }
}
