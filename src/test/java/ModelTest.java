import java.lang.reflect.InvocationTargetException;
import java.lang.reflect.Method;
import java.lang.reflect.Modifier;
import java.util.ArrayList;
import java.util.Arrays;
import java.util.Comparator;
import java.util.List;
import java.util.Map;
import java.util.Random;
import java.util.TreeMap;

/** Long runs of calls, always the same ones, on the program and on the model; every answer must be equal. */
public final class ModelTest {
    private static final int[] EXTREMES = {Integer.MIN_VALUE, -10000, -2, 10, 1000, 1001, 9999, 10000, Integer.MAX_VALUE};
    private static final List<String> CHANGES = List.of("setSetting", "setPixel", "removeFrame", "moveFeature",
        "addReading", "removeReading", "undo");

    /** The document promises nothing about later calls of an object. */
    private static final int CALLS = 512;
    /** The most calls that it takes to load a text. */
    private static final int CALLS_OF_A_TEXT = 73;

    private static final Map<String, String> KINDS = kinds();

    private final Random random;
    private final GlacierCamera camera = new GlacierCamera();
    private final Model model = new Model();
    private final StringBuilder calls = new StringBuilder();
    private final Map<String, Integer> answered;
    private int lastDay = 30;
    private int made = 0;

    private ModelTest(long seed, Map<String, Integer> answered) {
        random = new Random(seed);
        this.answered = answered;
    }

    private static Map<String, String> kinds() {
        Map<String, String> kinds = new TreeMap<>();
        String[] written = {"getSetting S", "setSetting SV", "frameDay f", "pixel fxy", "setPixel fxyb", "removeFrame f",
            "contrast f", "isUsable f", "isOriented f", "shiftX f", "shiftY f", "shiftError f", "match fxyf",
            "matchError fxyf", "matchMargin fxyf", "trackX Ff", "trackY Ff", "lostCount F", "loopError Fff",
            "closedLoops F", "leastTolerance F", "segmentCount F", "speed Fi", "meanSpeed F", "meanSpeedWithScale Fc",
            "surgeCount F", "surgeStart Fi", "surgeDays Fi", "positionX Fd", "positionY Fd", "moveFeature Fxy",
            "gapStart i", "gapDays i", "readingCount s", "readingDay si", "readingLength si", "addReading sdl",
            "removeReading sd", "drillCount s", "meltTo sd", "melt sdd", "meanMelt dd", "warmestInterval s",
            "registered fxy", "changedPixels ffb", "snowLine fb", "strain FF", "direction F", "meltInSegment Fi"};
        for (String line : written) {
            kinds.put(line.substring(0, line.indexOf(' ')), line.substring(line.indexOf(' ') + 1));
        }
        return kinds;
    }

    public static void main(String[] args) {
        int runs = args.length > 0 ? Integer.parseInt(args[0]) : 500;
        Map<String, Integer> answered = new TreeMap<>();
        boolean equal = true;
        for (int i = 0; i < runs && equal; i++) {
            equal = new ModelTest(i, answered).run();
        }
        if (args.length > 1) {
            System.out.println(answered);
        }
        if (!equal) {
            System.exit(1);
        }
    }

    private boolean run() {
        List<Method> methods = new ArrayList<>(Arrays.asList(GlacierCamera.class.getDeclaredMethods()));
        methods.removeIf(m -> !Modifier.isPublic(m.getModifiers()) || m.getName().equals("feed") || m.getName().equals("load"));
        methods.sort(Comparator.comparing(Method::getName));
        List<Method> changes = new ArrayList<>(methods);
        changes.removeIf(m -> !CHANGES.contains(m.getName()));
        boolean equal = loadText(text());
        while (made < CALLS && equal) {
            if (random.nextInt(60) == 0 && made + CALLS_OF_A_TEXT <= CALLS) {
                equal = loadText(random.nextInt(3) == 0 ? text() : damaged(text()));
            } else {
                List<Method> some = random.nextInt(6) == 0 ? changes : methods;
                Method method = some.get(random.nextInt(some.size()));
                if (method.getName().equals("removeFrame") && random.nextInt(5) > 0) {
                    continue;
                }
                equal = call(method.getName(), arguments(method));
            }
        }
        if (!equal) {
            System.out.println(calls);
        }
        return equal;
    }

    private Object[] arguments(Method method) {
        int count = method.getParameterCount();
        Object[] arguments = new Object[count];
        for (int i = 0; i < count; i++) {
            int wild = random.nextInt(40);
            arguments[i] = wild == 0 ? EXTREMES[random.nextInt(EXTREMES.length)] : likely(method.getName(), i);
        }
        return arguments;
    }

    /** An argument of a kind that KINDS names by a sign, in its range but for about one in twelve. */
    private int likely(String name, int index) {
        char kind = KINDS.getOrDefault(name, "").charAt(index);
        switch (kind) {
            case 'f':
                return within(model.frameCount());
            case 'F':
                return within(model.featureCount());
            case 's':
                return within(model.stakeCount());
            case 'x':
                return within(model.width());
            case 'y':
                return within(model.height());
            case 'i':
                return random.nextInt(3) - random.nextInt(2) * random.nextInt(2);
            case 'S':
                return within(8);
            case 'V':
                return random.nextInt(3) == 0 ? random.nextInt(200) : random.nextInt(5);
            case 'b':
                return within(10);
            case 'c':
                return 1 + within(1000);
            case 'd':
                return random.nextInt(lastDay + 2) - 1;
            default:
                return random.nextInt(60);
        }
    }

    private int within(int count) {
        int wrong = random.nextInt(24);
        return wrong == 0 ? -1 : wrong == 1 || count == 0 ? count : random.nextInt(count);
    }

    private boolean call(String name, Object... arguments) {
        made++;
        Object got = answer(camera, name, arguments);
        Object due = answer(model, name, arguments);
        calls.append(name).append(Arrays.toString(arguments)).append(" -> ").append(got).append('\n');
        String kind = got instanceof Integer i ? i < 0 ? i < -99 ? "far below 0" : "" + i : "0 and more" : got.toString();
        answered.merge(name + " " + kind, 1, Integer::sum);
        if (!got.equals(due)) {
            calls.append("due is ").append(due).append('\n');
            return false;
        }
        return true;
    }

    private static Object answer(Object target, String name, Object[] arguments) {
        Class<?>[] types = new Class<?>[arguments.length];
        Arrays.fill(types, int.class);
        try {
            return target.getClass().getMethod(name, types).invoke(target, arguments);
        } catch (InvocationTargetException e) {
            return "throws." + e.getCause().getClass().getSimpleName();
        } catch (ReflectiveOperationException e) {
            throw new IllegalStateException(e);
        }
    }

    private boolean loadText(String text) {
        calls.append(text).append('\n');
        boolean equal = true;
        for (int i = 0; i < text.length() && equal; i += 20) {
            Object[] words = new Object[5];
            for (int j = 0; j < 5; j++) {
                int word = 0;
                for (int k = i + 4 * j; k < i + 4 * j + 4; k++) {
                    word = word << 8 | (k < text.length() ? text.charAt(k) & 255 : 32);
                }
                words[j] = word;
            }
            equal = call("feed", words);
        }
        equal = equal && (random.nextInt(20) > 0 || call("load", random.nextBoolean() ? -1 : 1401));
        int length = random.nextInt(30) == 0 ? random.nextInt(text.length()) : text.length();
        return equal && call("load", length) && call("errorPosition");
    }

    private String text() {
        boolean small = random.nextInt(4) == 0;
        int width = small ? 4 : 4 + random.nextInt(9);
        int height = small ? 4 : 4 + random.nextInt(7);
        StringBuilder text = new StringBuilder();
        if (random.nextInt(10) == 0) {
            width = 12;
            height = 8;
        } else {
            text.append("size ").append(width).append(' ').append(height).append(';');
        }
        List<String> statements = new ArrayList<>();
        addFrames(statements, width, height);
        addOthers(statements, width, height);
        for (String statement : statements) {
            text.append(random.nextInt(9) == 0 ? "\n" : "").append(statement).append(';');
        }
        return text.length() <= 1400 ? text.toString() : text.substring(0, 1400);
    }

    private void addFrames(List<String> statements, int width, int height) {
        int[][] world = new int[40][40];
        int levels = 1 + random.nextInt(9);
        for (int[] row : world) {
            for (int i = 0; i < row.length; i++) {
                row[i] = random.nextInt(levels + 1);
            }
        }
        int day = random.nextInt(4);
        int noise = random.nextInt(4) == 0 ? 5 : 60;
        int flowX = random.nextInt(3) - 1;
        int flowY = random.nextInt(3) - 1;
        int frames = random.nextInt(6) == 0 ? random.nextInt(7) : 4 + random.nextInt(3);
        for (int i = 0; i < frames; i++) {
            int shiftX = random.nextInt(3) - 1;
            int shiftY = random.nextInt(3) - 1;
            boolean blank = random.nextInt(9) == 0;
            StringBuilder frame = new StringBuilder("frame ").append(day);
            for (int y = 0; y < height; y++) {
                frame.append(' ');
                for (int x = 0; x < width; x++) {
                    int flow = x > width / 3 ? i : 0;
                    int value = blank ? 3 : world[15 + y - shiftY - flow * flowY][15 + x - shiftX - flow * flowX];
                    frame.append(random.nextInt(noise) == 0 ? random.nextInt(10) : value);
                }
            }
            statements.add(frame.toString());
            day += 1 + random.nextInt(random.nextInt(4) == 0 ? 40 : 8);
        }
        lastDay = day;
    }

    private void addOthers(List<String> statements, int width, int height) {
        for (int i = random.nextInt(4); i > 0; i--) {
            add(statements, "control " + point(width, height));
        }
        for (int i = Math.max(random.nextInt(7), random.nextInt(7)); i > 0; i--) {
            add(statements, "feature " + point(width, height));
        }
        for (int i = random.nextInt(4); i > 0; i--) {
            StringBuilder stake = new StringBuilder("stake");
            int day = random.nextInt(5);
            for (int j = random.nextInt(8); j >= 0; j--) {
                int length = random.nextInt(random.nextInt(5) == 0 ? 10000 : 60);
                stake.append(' ').append(day).append(' ').append(length);
                day += 1 + random.nextInt(random.nextInt(9) == 0 ? 900 : 12);
            }
            add(statements, stake.toString());
        }
        String[] names = {"window", "range", "shift", "contrast", "tolerance", "scale", "gap", "surge"};
        int[] most = {2, 4, 3, 5, 9, 1000, 30, 200};
        for (int i = 0; i < 8; i++) {
            if (random.nextInt(3) == 0) {
                add(statements, "set " + names[i] + " " + Math.max(1, random.nextInt(most[i] + 1)));
            }
        }
    }

    private void add(List<String> statements, String statement) {
        statements.add(random.nextInt(statements.size() + 1), statement);
    }

    private String point(int width, int height) {
        int edge = random.nextInt(4) == 0 ? 0 : 1;
        return (edge + random.nextInt(width - 2 * edge)) + " " + (edge + random.nextInt(height - 2 * edge));
    }

    /** A text with one or two signs, words or statements gone wrong. */
    private String damaged(String text) {
        String[] pieces = {";", " ", "\n", "\t", "A", "\u00e9", "x", "0", "9", "10000", " 7 ", "12345", "size ", "frame ",
            "control 1 1;", "feature 2 2;", "stake 1 1;", "set ", "gap ", "set gap 5;", "set gap 5;set gap 5;", "99999999999999999999 "};
        StringBuilder result = new StringBuilder(text);
        for (int i = random.nextInt(2); i >= 0; i--) {
            int at = random.nextInt(result.length());
            switch (random.nextInt(4)) {
                case 0:
                    result.deleteCharAt(at);
                    break;
                case 1:
                    int end = Math.max(at, result.indexOf(" ", at));
                    result.delete(at, end);
                    break;
                case 2:
                    int place = Math.max(0, result.lastIndexOf(";", at)) + 1;
                    result.insert(Math.min(place, result.length()), pieces[random.nextInt(pieces.length)]);
                    break;
                default:
                    result.insert(at, pieces[random.nextInt(pieces.length)]);
                    break;
            }
            if (result.length() == 0) {
                result.append(' ');
            }
        }
        return result.length() <= 1400 ? result.toString() : result.substring(0, 1400);
    }
}
