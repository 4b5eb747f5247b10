import java.io.IOException;
import java.io.InputStream;
import java.nio.charset.StandardCharsets;
import java.nio.file.DirectoryStream;
import java.nio.file.Files;
import java.nio.file.Path;
import java.util.ArrayList;
import java.util.Comparator;
import java.util.List;
import java.util.Set;
import java.util.TreeSet;
import java.util.regex.Matcher;
import java.util.regex.Pattern;
import java.util.stream.Stream;

/** What README.md says holds as it is written there: its program, the lines that run it, its output, ERRORS, tests. */
public final class ReadmeTest {
    private static final Path SOURCE = Path.of("src/main/java/PaperBubbles.java");
    private static final Path TESTS = Path.of("src/test/java");

    public static void main(String[] args) throws Exception {
        Due due = new Due("ReadmeTest");
        String readme = Files.readString(Path.of("README.md"));
        example(due, readme);
        errors(due, readme);
        fault(due);
        anyNumber(due);
        tests(due, readme);
        due.end();
    }

    /** What stands between ```kind and ```; there is just one of each kind. */
    private static String block(Due due, String readme, String kind) {
        List<String> found = new ArrayList<>();
        Matcher blocks = Pattern.compile("(?ms)^```" + kind + "\n(.*?)^```$").matcher(readme);
        while (blocks.find()) {
            found.add(blocks.group(1));
        }
        due.is("blocks of " + kind, found.size(), 1);
        return found.isEmpty() ? "" : found.get(0);
    }

    private static void example(Due due, String readme) throws IOException, InterruptedException {
        Path place = Files.createTempDirectory("readme");
        try {
            Path copy = place.resolve(SOURCE);
            Files.createDirectories(copy.getParent());
            Files.copy(SOURCE, copy);
            Files.writeString(place.resolve("Example.java"), block(due, readme, "java"));
            StringBuilder printed = new StringBuilder();
            for (String line : block(due, readme, "sh").split("\n")) {
                due.is(line, run(place, line.split(" "), printed), 0);
            }
            String want = block(due, readme, "text");
            boolean same = printed.toString().replace("\r", "").equals(want);
            due.is("the program printed\n" + printed + "and README.md says\n" + want, same ? 1 : 0, 1);
        } finally {
            clear(place);
        }
    }

    private static int run(Path place, String[] line, StringBuilder printed) throws IOException, InterruptedException {
        // what the machine itself may say (options that it picked up) stands in no output of the program
        ProcessBuilder builder = new ProcessBuilder(line).redirectError(ProcessBuilder.Redirect.INHERIT);
        Process process = builder.directory(place.toFile()).start();
        try (InputStream out = process.getInputStream()) {
            printed.append(new String(out.readAllBytes(), StandardCharsets.UTF_8));
        }
        return process.waitFor();
    }

    private static void clear(Path place) throws IOException {
        try (Stream<Path> all = Files.walk(place)) {
            for (Path one : all.sorted(Comparator.reverseOrder()).toList()) {
                Files.delete(one);
            }
        }
    }

    private static void errors(Due due, String readme) {
        List<String> got = new ArrayList<>();
        Matcher rows = Pattern.compile("(?m)^\\| ([A-Z]+) +\\| (-\\d+) \\| `told\\((\\d)\\)` +\\|$").matcher(readme);
        while (rows.find()) {
            got.add(rows.group(1) + " " + rows.group(2) + " " + rows.group(3));
        }
        List<String> want = List.of("BEYOND " + Due.BEYOND + " 1", "NONE " + Due.NONE + " 2",
            "STATE " + Due.STATE + " 3", "FULL " + Due.FULL + " 4", "KIND " + Due.KIND + " 5");
        due.is("the ERRORS are " + want + ", in README.md " + got, got.equals(want) ? 1 : 0, 1);
        PaperBubbles x = new PaperBubbles();
        x.tool(0);
        int[] answers = {x.edge(4, 0), x.biggest(0), x.sheet(0, 8, -1), tellsFull(x), x.as(0, 1)};
        due.rows("one of each", answers, Due.BEYOND, Due.NONE, Due.STATE, Due.FULL, Due.KIND);
        for (int k = 1; k <= 5; k++) {
            due.is("told(" + k + ")", x.told(k), 1);
        }
    }

    private static int tellsFull(PaperBubbles x) {
        for (int i = 0; i < 20; i++) {
            x.tell(i);
        }
        return x.tell(20);
    }

    private static void fault(Due due) {
        PaperBubbles x = new PaperBubbles();
        due.is("a FAULT", x.text(0), -10);
        due.is("a FAULT", Due.text(x, 0, "aa"), -11);
        for (int k = 1; k <= 5; k++) {
            due.is("no ERROR: told(" + k + ")", x.told(k), 0);
        }
    }

    private static void anyNumber(Due due) {
        PaperBubbles x = new PaperBubbles();
        x.tool(0);
        x.seed(Due.BEYOND);
        due.is("count(11)", x.count(11), Due.BEYOND);
        due.is("seed(0)", x.seed(0), Due.BEYOND);
        due.is("voice(0, 0, ..) that answers x", x.voice(0, 0, Due.BEYOND), Due.BEYOND);
        due.is("told(1) ahead", x.told(1), 0);
        due.is("voice(1, 0, ..) that is refused", x.voice(1, 0, Due.BEYOND), Due.BEYOND);
        due.is("told(1) behind", x.told(1), 1);
    }

    private static void tests(Due due, String readme) throws IOException {
        Set<String> got = new TreeSet<>();
        Matcher names = Pattern.compile("`(\\w+Test)`").matcher(readme);
        while (names.find()) {
            got.add(names.group(1));
        }
        Set<String> want = new TreeSet<>();
        for (String name : namesIn(TESTS)) {
            if (name.endsWith("Test")) {
                want.add(name);
            }
        }
        due.is("the tests are " + want + ", in README.md " + got, got.equals(want) ? 1 : 0, 1);
        due.is(".ci/run can be run", Files.isExecutable(Path.of(".ci/run")) ? 1 : 0, 1);
    }

    private static Set<String> namesIn(Path directory) throws IOException {
        Set<String> names = new TreeSet<>();
        try (DirectoryStream<Path> files = Files.newDirectoryStream(directory, "*.java")) {
            for (Path file : files) {
                names.add(file.getFileName().toString().replace(".java", ""));
            }
        }
        return names;
    }
}
