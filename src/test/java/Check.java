import java.nio.charset.StandardCharsets;

/** What the tests share: feeding texts, comparing answers and ending with exit code 1 if one was wrong. */
final class Check {
    private static int wrong = 0;
    /** The case that is being run, for the messages. */
    private static String place = "";

    private Check() {
    }

    interface Call {
        Object answer();
    }

    static void enter(String newPlace) {
        place = newPlace + ": ";
    }

    static void equal(String what, Object got, Object due) {
        if (!got.equals(due)) {
            wrong++;
            System.out.println(place + what + " answered " + got + ", due is " + due);
        }
    }

    /** What a call answers, or "throws." and the name of the exception's class. */
    static Object answerOf(Call call) {
        try {
            return call.answer();
        } catch (RuntimeException e) {
            return "throws." + e.getClass().getSimpleName();
        }
    }

    static void outOfBounds(String what, Call call) {
        equal(what, answerOf(call), "throws.IndexOutOfBoundsException");
    }

    static void illegalState(String what, Call call) {
        equal(what, answerOf(call), "throws.IllegalStateException");
    }

    /** Feeds a text, filled up with spaces to a multiple of 20 bytes; returns the last answer of feed. */
    static int feed(GlacierCamera camera, String text) {
        byte[] bytes = text.getBytes(StandardCharsets.ISO_8859_1);
        int answer = 0;
        for (int i = 0; i < bytes.length; i += 20) {
            answer = camera.feed(four(bytes, i), four(bytes, i + 4), four(bytes, i + 8), four(bytes, i + 12),
                four(bytes, i + 16));
        }
        return answer;
    }

    static int load(GlacierCamera camera, String text) {
        feed(camera, text);
        return camera.load(text.length());
    }

    /** A new object into which a text has been loaded that must have no error. */
    static GlacierCamera loaded(String text) {
        GlacierCamera camera = new GlacierCamera();
        int answer = load(camera, text);
        if (answer < 0) {
            throw new IllegalArgumentException(text + " has error " + answer + " at " + camera.errorPosition());
        }
        return camera;
    }

    static void finish() {
        if (wrong > 0) {
            System.out.println(wrong + " wrong");
            System.exit(1);
        }
    }

    private static int four(byte[] bytes, int start) {
        int value = 0;
        for (int i = start; i < start + 4; i++) {
            value = value << 8 | (i < bytes.length ? bytes[i] & 255 : ' ');
        }
        return value;
    }
}
