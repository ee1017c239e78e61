import java.io.IOException;
import java.nio.charset.StandardCharsets;
import java.nio.file.Files;
import java.nio.file.Path;
import java.util.ArrayList;
import java.util.List;
import java.util.Set;
import java.util.TreeSet;
import java.util.regex.Matcher;
import java.util.regex.Pattern;
import java.util.stream.Collectors;
import java.util.stream.Stream;

/** README.md: its example compiles and prints what it says, its commands work, and its table has every test. */
public final class ReadmeTest {
    private static final Check CHECK = new Check();
    private static final Path TESTS = Path.of("src/test/java");
    private static final String ALL_TESTS = ".ci/run\n";

    private static String page;
    private static Path room;

    public static void main(String[] args) throws Exception {
        page = Files.readString(Path.of("README.md"));
        room = Files.createTempDirectory("readme");
        try {
            example();
            oneTestAlone();
            allTests();
            table();
        } finally {
            clear(room);
        }
        CHECK.end();
    }

    /** The first java block is a whole program, and the first text block what it prints. */
    private static void example() throws Exception {
        Files.writeString(room.resolve("Example.java"), blocks("java").get(0));
        for (String command : blocks("sh")) {
            if (command.contains("Example.java")) {
                String here = command.replace(" Example.java", " " + room.resolve("Example.java"));
                String printed = printedBy(here.replace("/tmp/example", room.resolve("example").toString()));
                String said = blocks("text").get(0);
                CHECK.holds("the example printed\n" + printed + "README.md says\n" + said, printed.equals(said));
                return;
            }
        }
        CHECK.holds("README.md has the commands for its example", false);
    }

    /** Everything but the example and .ci/run, which runs this test itself. */
    private static void oneTestAlone() throws Exception {
        int ofProject = 0;
        for (String command : blocks("sh")) {
            if (!command.equals(ALL_TESTS) && !command.contains("Example.java") && hasItsTest(command)) {
                String printed = printedBy(command.replace("/tmp/out", room.resolve("out").toString()));
                CHECK.holds("all answers are as due:\n" + command + printed, printed.contains("as due"));
                ofProject += command.contains(TESTS.toString()) ? 1 : 0;
            }
        }
        CHECK.holds("README.md says how to run one test alone", ofProject > 0);
    }

    /** The tests under ../shared are not the project's: they may get other names. */
    private static boolean hasItsTest(String command) {
        Matcher shared = Pattern.compile("\\.\\./shared/tests/\\w+\\.java").matcher(command);
        return !shared.find() || Files.exists(Path.of(shared.group()));
    }

    private static void allTests() throws IOException {
        CHECK.holds("README.md says how to run all tests", blocks("sh").contains(ALL_TESTS));
        CHECK.holds(".ci/run can be run", Files.isExecutable(Path.of(ALL_TESTS.strip())));
    }

    private static void table() throws IOException {
        Set<String> named = new TreeSet<>();
        Matcher row = Pattern.compile("(?m)^\\| `(\\w+Test)` \\|").matcher(page);
        while (row.find()) {
            named.add(row.group(1));
        }
        try (Stream<Path> files = Files.list(TESTS)) {
            Set<String> there = files.map(file -> file.getFileName().toString()).filter(name -> name.endsWith("Test.java"))
                .map(name -> name.substring(0, name.length() - ".java".length())).collect(Collectors.toSet());
            CHECK.holds("tests in the table " + named + ", there are " + there, named.equals(there));
        }
    }

    private static List<String> blocks(String language) {
        List<String> blocks = new ArrayList<>();
        Matcher block = Pattern.compile("(?ms)^```" + language + "\\n(.*?)^```$").matcher(page);
        while (block.find()) {
            blocks.add(block.group(1));
        }
        return blocks;
    }

    private static String printedBy(String commands) throws Exception {
        ProcessBuilder builder = new ProcessBuilder("sh", "-e", "-c", commands);
        Process process = builder.redirectError(ProcessBuilder.Redirect.INHERIT).start();
        String printed = new String(process.getInputStream().readAllBytes(), StandardCharsets.UTF_8);
        CHECK.due("exit code of\n" + commands, process.waitFor(), 0);
        return printed;
    }

    private static void clear(Path folder) throws IOException {
        try (Stream<Path> files = Files.walk(folder)) {
            for (Path file : files.sorted((one, two) -> two.compareTo(one)).collect(Collectors.toList())) {
                Files.delete(file);
            }
        }
    }
}
