import java.io.IOException;
import java.nio.charset.StandardCharsets;
import java.nio.file.Files;
import java.nio.file.Path;
import java.util.ArrayList;
import java.util.List;
import java.util.TreeSet;
import java.util.concurrent.TimeUnit;
import java.util.regex.Matcher;
import java.util.regex.Pattern;
import java.util.stream.Collectors;
import java.util.stream.Stream;

/** What README.md says is true: its program answers what stands there, and its tests are those that there are. */
public final class ReadmeTest {
    private static final Path README = Path.of("README.md");
    private static final Path SOURCE = Path.of("src", "main", "java", "BellHush.java");
    private static final Path TESTS = Path.of("src", "test", "java");
    private static final int MOST_SECONDS = 120;
    private static final Checks CHECKS = new Checks();

    public static void main(String[] args) throws IOException, InterruptedException {
        String readme = Files.readString(README);
        theProgramAnswersWhatReadmeSays(readme);
        theTestsAreRunAsReadmeSays(readme);
        eachTestFileStandsInReadme(readme);
        CHECKS.end("ReadmeTest");
    }

    private static void theProgramAnswersWhatReadmeSays(String readme) throws IOException, InterruptedException {
        String program = onlyBlock(readme, "java");
        String commands = onlyBlock(readme, "sh");
        String answers = onlyBlock(readme, "text");
        Matcher name = Pattern.compile("public (?:final )?class (\\w+) ").matcher(program);
        CHECKS.isTrue("README.md's program is a whole class", name.find());
        String file = name.group(1) + ".java";
        CHECKS.isTrue("README.md names " + file, readme.contains("`" + file + "`"));
        String got = ran(commands, program, file);
        CHECKS.isTrue("README.md's program answers:\n" + got + "README.md says:\n" + answers, got.equals(answers));
    }

    /** What README.md's commands print, in a directory with the class and the program alone. */
    private static String ran(String commands, String program, String file) throws IOException, InterruptedException {
        Path checkout = Files.createTempDirectory("readme");
        try {
            Files.createDirectories(checkout.resolve(SOURCE).getParent());
            Files.copy(SOURCE, checkout.resolve(SOURCE));
            Files.writeString(checkout.resolve(file), program);
            Path printed = checkout.resolve("printed");
            Process process = new ProcessBuilder("sh", "-e", "-c", commands).directory(checkout.toFile())
                .redirectOutput(printed.toFile()).redirectError(ProcessBuilder.Redirect.INHERIT).start();
            boolean ended = process.waitFor(MOST_SECONDS, TimeUnit.SECONDS);
            if (!ended) {
                process.destroyForcibly().waitFor();
            }
            CHECKS.isTrue("README.md's commands end", ended);
            CHECKS.due("exit code of README.md's commands", process.exitValue(), 0);
            return Files.readString(printed);
        } finally {
            delete(checkout);
        }
    }

    private static void theTestsAreRunAsReadmeSays(String readme) {
        CHECKS.isTrue("README.md says how the tests are run", readme.contains("\n    bash .ci/run\n"));
        CHECKS.isTrue(".ci/run can be run", Files.isExecutable(Path.of(".ci", "run")));
    }

    private static void eachTestFileStandsInReadme(String readme) throws IOException {
        TreeSet<String> told = new TreeSet<>();
        Matcher row = Pattern.compile("(?m)^\\| ([A-Z][\\w, ]*) \\|").matcher(readme);
        while (row.find()) {
            told.addAll(List.of(row.group(1).split(", ")));
        }
        TreeSet<String> there = new TreeSet<>();
        for (Path path : within(TESTS)) {
            String file = path.getFileName().toString();
            if (file.endsWith(".java")) {
                there.add(file.substring(0, file.length() - ".java".length()));
            }
        }
        CHECKS.isTrue("README.md tells of " + told + ", there are " + there, told.equals(there));
    }

    /** The lines of the one block of this kind. */
    private static String onlyBlock(String readme, String kind) {
        List<String> blocks = new ArrayList<>();
        Matcher matcher = Pattern.compile("(?ms)^```" + kind + "\n(.*?)^```$").matcher(readme);
        while (matcher.find()) {
            blocks.add(matcher.group(1));
        }
        CHECKS.due("blocks of " + kind + " in README.md", blocks.size(), 1);
        return blocks.isEmpty() ? "" : blocks.get(0);
    }

    private static List<Path> within(Path directory) throws IOException {
        try (Stream<Path> paths = Files.walk(directory)) {
            return paths.collect(Collectors.toList());
        }
    }

    private static void delete(Path directory) throws IOException {
        List<Path> paths = within(directory);
        for (int i = paths.size() - 1; i >= 0; i--) {
            Files.delete(paths.get(i));
        }
    }
}
