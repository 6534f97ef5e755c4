import java.io.IOException;
import java.lang.reflect.Method;
import java.lang.reflect.Modifier;
import java.nio.file.Files;
import java.nio.file.Path;
import java.util.ArrayList;
import java.util.Comparator;
import java.util.List;
import java.util.Set;
import java.util.TreeSet;
import java.util.regex.Matcher;
import java.util.regex.Pattern;
import java.util.stream.Stream;

/** That what README.md says to do can be done word by word, and that its program prints what it says. */
public final class ReadmeTest {
    private static final Path README = Path.of("README.md");
    private static final Path TESTS = Path.of("src/test/java");
    private static final Path PROGRAM = Path.of("src/main/java/Nearestclock.java");
    private static final String RUN_ALL = ".ci/run";
    private static final Pattern PRINTED = Pattern.compile("println\\(.*\\);\\s+// (.*)");

    private ReadmeTest() {
    }

    public static void main(String[] args) throws IOException, InterruptedException {
        String readme = Files.readString(README);
        List<String> programs = blocks(readme, "java");
        List<String> commands = blocks(readme, "sh");
        Check.same("the programs of README.md", programs.size(), 1);
        Check.same("the commands of README.md", commands.size(), 3);
        Path checkout = Files.createTempDirectory("readme");
        try {
            copySources(checkout);
            theProgramPrintsWhatItSays(checkout, programs.get(0), commands.get(0));
            allTestsAreRunBy(commands.get(1));
            oneTestAloneRuns(checkout, commands.get(2));
        } finally {
            delete(checkout);
        }
        everyCallIsNamed(readme);
        everyTestIsNamed(readme);
        Check.end(ReadmeTest.class);
    }

    /** What stands between a line of three ticks with this name and the next line of three ticks. */
    private static List<String> blocks(String readme, String name) {
        List<String> all = new ArrayList<>();
        Matcher found = Pattern.compile("(?ms)^```" + name + "\n(.*?)^```$").matcher(readme);
        while (found.find()) {
            all.add(found.group(1));
        }
        return all;
    }

    private static void theProgramPrintsWhatItSays(Path checkout, String program, String command)
            throws IOException, InterruptedException {
        Files.writeString(checkout.resolve("Example.java"), program);
        List<String> due = new ArrayList<>();
        Matcher said = PRINTED.matcher(program);
        while (said.find()) {
            due.add(said.group(1));
        }
        List<String> got = run(checkout, command);
        int prints = program.split("println\\(", -1).length - 1;
        Check.same("the lines of the program that say what they print", due.size(), prints);
        Check.same("the lines that the program prints", got.size(), due.size());
        for (int line = 0; line < Math.min(got.size(), due.size()); line++) {
            String what = "line " + (line + 1) + " is " + got.get(line) + ", README.md says " + due.get(line);
            Check.isTrue(what, got.get(line).equals(due.get(line)));
        }
    }

    /** It is what runs this test, so it is not run once more. */
    private static void allTestsAreRunBy(String command) {
        Check.isTrue("README.md runs all tests by " + RUN_ALL, command.equals(RUN_ALL + "\n"));
        Check.isTrue(RUN_ALL + " can be run", Files.isExecutable(Path.of(RUN_ALL)));
    }

    private static void oneTestAloneRuns(Path checkout, String command) throws IOException, InterruptedException {
        List<String> got = run(checkout, command);
        boolean isRun = got.size() == 1 && got.get(0).endsWith(" 0 wrong");
        Check.isTrue("one test alone tells its looks, it told " + got, isRun);
    }

    /** The lines that a shell prints for this, which must end well. */
    private static List<String> run(Path directory, String command) throws IOException, InterruptedException {
        ProcessBuilder shell = new ProcessBuilder("sh", "-e", "-c", command).directory(directory.toFile());
        Process running = shell.redirectError(ProcessBuilder.Redirect.INHERIT).start();
        List<String> lines = new String(running.getInputStream().readAllBytes()).lines().toList();
        Check.same("the end of: " + command, running.waitFor(), 0);
        return lines;
    }

    private static void everyCallIsNamed(String readme) {
        for (Method method : Nearestclock.class.getDeclaredMethods()) {
            if (Modifier.isPublic(method.getModifiers())) {
                String with = "\\((\\w+(, )?){" + method.getParameterCount() + "}\\)";
                Pattern row = Pattern.compile("(?m)^\\| `" + method.getName() + with + "` \\|");
                Check.isTrue("README.md has a row of " + method, row.matcher(readme).find());
                Check.isTrue("README.md shows " + method, readme.contains("clock." + method.getName() + "("));
            }
        }
    }

    private static void everyTestIsNamed(String readme) throws IOException {
        Set<String> named = new TreeSet<>();
        Matcher found = Pattern.compile("`(\\w+Test)`").matcher(readme);
        while (found.find()) {
            named.add(found.group(1) + ".java");
        }
        Set<String> due = new TreeSet<>();
        for (Path file : filesOf(TESTS)) {
            if (file.getFileName().toString().endsWith("Test.java")) {
                due.add(file.getFileName().toString());
            }
        }
        Check.isTrue("the tests are " + due + ", README.md names " + named, named.equals(due));
    }

    private static void copySources(Path checkout) throws IOException {
        Files.createDirectories(checkout.resolve(TESTS));
        Files.createDirectories(checkout.resolve(PROGRAM).getParent());
        Files.copy(PROGRAM, checkout.resolve(PROGRAM));
        for (Path file : filesOf(TESTS)) {
            Files.copy(file, checkout.resolve(file));
        }
    }

    private static List<Path> filesOf(Path directory) throws IOException {
        try (Stream<Path> all = Files.list(directory)) {
            return all.toList();
        }
    }

    private static void delete(Path directory) throws IOException {
        try (Stream<Path> all = Files.walk(directory)) {
            for (Path each : all.sorted(Comparator.reverseOrder()).toList()) {
                Files.delete(each);
            }
        }
    }
}
