import java.io.File;
import java.io.IOException;
import java.lang.reflect.Method;
import java.nio.file.Files;
import java.nio.file.Path;
import java.util.ArrayList;
import java.util.List;
import java.util.regex.Pattern;

/**
 * Compares the boundary cases with the document: what a case quotes must stand there, and each sentence that names
 * a boundary must be quoted by a case, one of a promise by a case of that very promise.
 */
public final class BoundaryCoverageTest {
    private static final Class<?>[] TESTS = {BoundaryLoadTest.class, BoundaryTextTest.class, BoundaryFrameTest.class,
        BoundaryOrientationTest.class, BoundaryMatchTest.class, BoundaryTrackTest.class, BoundarySpeedTest.class,
        BoundaryGapTest.class, BoundaryStakeTest.class, BoundaryUndoTest.class, BoundaryImageTest.class};
    private static final int PROMISES = 65;
    private static final Pattern BOUNDARY = Pattern.compile("\\b(if|at most|at least|first|last|least|greatest|latest|longest|longer?"
        + "|rounded|[Tt]ies|[Ww]ithout|initial(ly)?|only|\\d+ to \\d+|more|greater|less|exactly|exact|fewer|few|many|empty|nothing|none"
        + "|always|never|any|strictly|not|no|same|counted|seventh|fifth|fourth|ninth|successive|otherwise|Otherwise|already|from 0"
        + "|decrease|between|each|all|inside|too)\\b");

    public static void main(String[] args) throws IOException {
        String document = plain(Files.readString(Path.of("../shared/DOC.md")));
        String description = between(document, "## Description", "Examples (each result is that of a run)");
        List<Method> cases = new ArrayList<>();
        for (Class<?> tests : TESTS) {
            cases.addAll(Cases.of(tests));
        }
        for (int promise = 1; promise <= PROMISES; promise++) {
            String next = promise < PROMISES ? "## Promise " + (promise + 1) + ":" : "## Not promised";
            String section = between(document, "## Promise " + promise + ":", next);
            List<Method> own = new ArrayList<>();
            for (Method method : cases) {
                if (method.getName().startsWith(String.format("promise%02d_", promise))) {
                    own.add(method);
                    quotesStandIn(method, description + " | " + section + " | " + document.substring(0, 1500));
                }
            }
            Check.equal("promise " + promise + " has cases", own.size() > 0, true);
            int signature = section.indexOf(" ; ") + 3;
            quoted("promise " + promise, section.substring(section.indexOf(" ; ", signature) + 3), own);
        }
        quoted("the description", description, cases);
        for (Method method : cases) {
            boolean numbered = method.getName().matches("promise(0[1-9]|[1-5]\\d|6[0-5])_\\w+");
            Check.equal(method.getName() + " bears the number of a promise", numbered, true);
        }
        Check.equal("files of boundary cases", TESTS.length, filesOfCases());
        Check.finish();
    }

    private static int filesOfCases() {
        int files = 0;
        String[] names = new File("src/test/java").list();
        for (String name : names == null ? new String[0] : names) {
            boolean own = name.equals("BoundaryCoverageTest.java");
            files += !own && name.startsWith("Boundary") && name.endsWith("Test.java") ? 1 : 0;
        }
        return files;
    }

    /** The text in one line, without the marks of code; " ; " stands behind each list entry, paragraph and signature. */
    private static String plain(String text) {
        return text.replaceAll("\\n\\n(- )?|\\n- |\\n```", " ; ").replace("`", "").replaceAll("\\s+", " ");
    }

    private static String between(String text, String start, String end) {
        int from = text.indexOf(start);
        int to = text.indexOf(end, from);
        Check.equal("the document has " + start + " and " + end, from >= 0 && to > from, true);
        return text.substring(from, to);
    }

    private static void quotesStandIn(Method method, String text) {
        Says says = method.getAnnotation(Says.class);
        Check.equal(method.getName() + " quotes the document", says != null && says.value().length > 0, true);
        if (says != null) {
            for (String quote : says.value()) {
                Check.equal("quote of " + method.getName() + " stands in the document: " + quote, text.contains(quote), true);
            }
        }
    }

    private static void quoted(String place, String text, List<Method> cases) {
        for (String sentence : text.split(" ?[.;:] ")) {
            // A single word is the name of a parameter.
            if (sentence.contains(" ") && BOUNDARY.matcher(sentence).find() && !isQuoted(sentence, cases)) {
                Check.equal("number of cases for " + place + ": \"" + sentence + "\"", 0, "at least one");
            }
        }
    }

    private static boolean isQuoted(String sentence, List<Method> cases) {
        for (Method method : cases) {
            Says says = method.getAnnotation(Says.class);
            for (String quote : says == null ? new String[0] : says.value()) {
                if (sentence.contains(quote) || quote.contains(sentence)) {
                    return true;
                }
            }
        }
        return false;
    }
}
