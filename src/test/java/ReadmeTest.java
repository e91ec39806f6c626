import java.io.File;
import java.io.IOException;
import java.nio.file.Files;
import java.nio.file.Path;
import java.util.ArrayList;
import java.util.List;
import java.util.Set;
import java.util.TreeSet;
import java.util.regex.Matcher;
import java.util.regex.Pattern;
import java.util.stream.Collectors;
import java.util.stream.Stream;

/** README.md: what it says of the use of the class and of its tests holds in a copy of the project. */
public final class ReadmeTest {
    private static final Check CHECK = new Check("ReadmeTest");
    private static final Path HERE = Path.of("").toAbsolutePath();
    private static final Pattern PRINTED = Pattern.compile("println\\(.*\\);\\s*// (-?\\d+): ");

    public static void main(String[] args) throws IOException, InterruptedException {
        String readme = Files.readString(HERE.resolve("README.md"));
        namesAllCalls(readme);
        namesAllTests(readme);
        Path room = Files.createTempDirectory("readme");
        try {
            Path copy = copyOfTheProject(room);
            List<String> examples = blocks(readme, "java");
            CHECK.due("examples", examples.size(), 1);
            Files.writeString(copy.resolve("Example.java"), String.join("\n", examples));
            runCommands(readme, copy, numbersSaid(examples));
        } finally {
            remove(room);
        }
        CHECK.finish();
    }

    private static void namesAllCalls(String readme) {
        Set<String> named = new TreeSet<>();
        for (String line : readme.split("\n")) {
            if (line.matches("\\| (flights|players|three|notes|feathers|evenings) \\|.*")) {
                named.addAll(inTicks(line));
            }
        }
        CHECK.holds("calls named: " + named, named.equals(new TreeSet<>(Calls.names())));
    }

    private static void namesAllTests(String readme) throws IOException {
        Set<String> named = new TreeSet<>();
        for (String name : inTicks(readme)) {
            if (name.matches("[A-Z]\\w*Test")) {
                named.add(name + ".java");
            }
        }
        try (Stream<Path> files = Files.list(HERE.resolve("src/test/java"))) {
            Set<String> there = files.map(file -> file.getFileName().toString())
                .filter(name -> name.endsWith("Test.java")).collect(Collectors.toCollection(TreeSet::new));
            CHECK.holds("tests named: " + named + ", there: " + there, named.equals(there));
        }
    }

    private static List<String> inTicks(String text) {
        return Pattern.compile("`(\\w+)`").matcher(text).results().map(found -> found.group(1)).toList();
    }

    private static List<String> blocks(String readme, String language) {
        Matcher found = Pattern.compile("(?ms)^```" + language + "\n(.*?)^```$").matcher(readme);
        return found.results().map(block -> block.group(1)).toList();
    }

    private static List<String> numbersSaid(List<String> examples) {
        List<String> said = new ArrayList<>();
        for (String line : String.join("\n", examples).split("\n")) {
            Matcher printed = PRINTED.matcher(line);
            boolean isSaid = printed.find();
            CHECK.holds("has its number: " + line, isSaid || !line.contains("println"));
            if (isSaid) {
                said.add(printed.group(1));
            }
        }
        return said;
    }

    /** .ci/run itself is left out, since it runs this test. */
    private static void runCommands(String readme, Path copy, List<String> said) throws IOException,
            InterruptedException {
        boolean isExampleRun = false;
        boolean isWholeNamed = false;
        for (String commands : blocks(readme, "sh")) {
            if (commands.equals(".ci/run\n")) {
                isWholeNamed = Files.isExecutable(HERE.resolve(".ci/run"));
                continue;
            }
            File output = copy.resolve("output").toFile();
            Process shell = new ProcessBuilder("sh", "-e", "-c", commands).directory(copy.toFile())
                .redirectErrorStream(true).redirectOutput(output).start();
            CHECK.due(commands, shell.waitFor(), 0);
            if (commands.contains("Example")) {
                List<String> printed = Files.readAllLines(output.toPath());
                CHECK.holds("the example prints " + printed + ", said is " + said, printed.equals(said));
                isExampleRun = true;
            }
        }
        CHECK.holds("the example is run", isExampleRun);
        CHECK.holds(".ci/run is named and can be run", isWholeNamed);
    }

    /** So that the commands find nothing but what a checkout has, and leave nothing in it. */
    private static Path copyOfTheProject(Path room) throws IOException {
        Path copy = room.resolve("project");
        Files.createSymbolicLink(room.resolve("shared"), HERE.resolveSibling("shared"));
        for (String folder : new String[] {"src/main/java", "src/test/java"}) {
            Files.createDirectories(copy.resolve(folder));
            try (Stream<Path> files = Files.list(HERE.resolve(folder))) {
                for (Path file : files.toList()) {
                    Files.copy(file, copy.resolve(folder).resolve(file.getFileName()));
                }
            }
        }
        return copy;
    }

    private static void remove(Path room) throws IOException {
        try (Stream<Path> paths = Files.walk(room)) {
            List<Path> deepestLast = paths.toList();
            for (int i = deepestLast.size() - 1; i >= 0; i--) {
                Files.delete(deepestLast.get(i));
            }
        }
    }
}
