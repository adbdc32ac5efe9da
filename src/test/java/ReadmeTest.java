import java.io.IOException;
import java.lang.reflect.Method;
import java.lang.reflect.Modifier;
import java.nio.file.Files;
import java.nio.file.Path;
import java.nio.file.StandardCopyOption;
import java.util.ArrayList;
import java.util.List;
import java.util.Set;
import java.util.TreeSet;
import java.util.regex.Matcher;
import java.util.regex.Pattern;

/** README.md: its program answers as it says, its commands are those of .ci/run, and it names the whole face. */
public final class ReadmeTest {
    private static final Pattern BLOCK = Pattern.compile("```(\\w+)\\n(.*?)```", Pattern.DOTALL);
    private static final String USE = "## Using it", TESTS = "## Running the tests";

    public static void main(String[] args) throws IOException, InterruptedException {
        String readme = Files.readString(Path.of("README.md"));
        programAnswersAsShown(section(readme, USE));
        commandsAreThoseOfCi(section(readme, TESTS));
        namesTheFace(readme);
        namesTheTests(section(readme, TESTS));
        Check.finish();
    }

    private static String section(String readme, String heading) {
        int start = readme.indexOf(heading + "\n");
        Check.equal("README.md has " + heading, start >= 0, true);
        String rest = start < 0 ? "" : readme.substring(start + heading.length());
        int end = rest.indexOf("\n## ");
        return end < 0 ? rest : rest.substring(0, end);
    }

    /** The only block of a kind in a section. */
    private static String block(String section, String kind) {
        List<String> blocks = new ArrayList<>();
        Matcher matcher = BLOCK.matcher(section);
        while (matcher.find()) {
            if (matcher.group(1).equals(kind)) {
                blocks.add(matcher.group(2));
            }
        }
        Check.equal("number of blocks " + kind, blocks.size(), 1);
        return blocks.isEmpty() ? "" : blocks.get(0);
    }

    private static void programAnswersAsShown(String section) throws IOException, InterruptedException {
        Path folder = Path.of("build/readme");
        Files.createDirectories(folder);
        Files.copy(Path.of("src/main/java/GlacierCamera.java"), folder.resolve("GlacierCamera.java"),
            StandardCopyOption.REPLACE_EXISTING);
        Files.writeString(folder.resolve("Survey.java"), block(section, "java"));
        Process process = new ProcessBuilder("sh", "-e", "-c", block(section, "sh")).directory(folder.toFile())
            .redirectErrorStream(true).start();
        String printed = new String(process.getInputStream().readAllBytes());
        Check.equal("exit code of the program", process.waitFor(), 0);
        Check.equal("the program", printed, block(section, "text"));
    }

    /** The names of tests aside, since .ci/run runs each test and README.md shows one of each kind. */
    private static void commandsAreThoseOfCi(String section) throws IOException {
        Set<String> shown = new TreeSet<>();
        for (String command : block(section, "sh").split("\n")) {
            shown.add(kind(command));
        }
        Check.equal("README.md tells .ci/run", shown.remove(".ci/run"), true);
        Set<String> run = new TreeSet<>();
        for (String command : Files.readAllLines(Path.of("build/commands"))) {
            run.add(kind(command));
        }
        Check.equal("the commands of README.md", shown, run);
    }

    private static String kind(String command) {
        return command.replaceAll("build/shared/\\w+", "build/shared/NAME").replaceAll("tests/\\w+\\.java", "tests/NAME.java")
            .replaceAll(" \\w+$", " NAME");
    }

    private static void namesTheFace(String readme) {
        for (Method method : GlacierCamera.class.getDeclaredMethods()) {
            if (Modifier.isPublic(method.getModifiers())) {
                Check.equal("README.md names " + method.getName(), readme.contains("`" + method.getName() + "`"), true);
            }
        }
    }

    private static void namesTheTests(String section) {
        String[] files = Path.of("src/test/java").toFile().list((folder, name) -> name.endsWith("Test.java"));
        Set<String> due = new TreeSet<>();
        for (String file : files == null ? new String[0] : files) {
            due.add(file.replace(".java", ""));
        }
        Set<String> named = new TreeSet<>();
        for (String word : section.split("\\W+")) {
            if (word.endsWith("Test")) {
                named.add(word);
            }
        }
        Check.equal("the tests that README.md names", named, due);
    }
}
