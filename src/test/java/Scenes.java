/** Texts for load with images that are dark but for some dots. */
final class Scenes {
    private Scenes() {
    }

    /** A statement frame; the dots are triples of column, row and brightness. */
    static String frame(int width, int height, int day, int... dots) {
        StringBuilder text = new StringBuilder("frame ").append(day);
        for (int y = 0; y < height; y++) {
            StringBuilder row = new StringBuilder("0".repeat(width));
            for (int i = 0; i + 2 < dots.length; i += 3) {
                if (dots[i + 1] == y) {
                    row.setCharAt(dots[i], (char) ('0' + dots[i + 2]));
                }
            }
            text.append(' ').append(row);
        }
        return text.append(';').toString();
    }
}
