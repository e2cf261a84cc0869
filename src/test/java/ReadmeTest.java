import java.io.File;
import java.io.IOException;
import java.lang.reflect.Method;
import java.lang.reflect.Modifier;
import java.nio.charset.StandardCharsets;
import java.nio.file.Files;
import java.nio.file.Path;
import java.util.ArrayList;
import java.util.List;
import java.util.stream.Stream;

/** README.md's program prints what it says, and its list names every public call with its promise's number. */
public final class ReadmeTest {
    private static final Path README = Path.of("README.md");
    private static final Path DOCUMENT = Path.of("../shared/DOC.md");
    private static final Path PLACE = Path.of("build/readme");
    private static final String PRINTS = "// prints ";

    private ReadmeTest() {
    }

    public static void main(String[] args) throws IOException, InterruptedException {
        List<String> readme = Files.readAllLines(README, StandardCharsets.UTF_8);
        Due.about("README.md");
        programPrints(program(readme));
        listIsWhole(readme);
        testsAreNamed(readme);
        Due.end();
    }

    private static List<String> program(List<String> readme) {
        int from = readme.indexOf("```java");
        int size = from < 0 ? 0 : readme.subList(from + 1, readme.size()).indexOf("```");
        return size < 1 ? List.of() : readme.subList(from + 1, from + 1 + size);
    }

    private static void programPrints(List<String> program) throws IOException, InterruptedException {
        List<String> due = new ArrayList<>();
        for (String line : program) {
            if (line.contains(PRINTS)) {
                due.add(line.substring(line.indexOf(PRINTS) + PRINTS.length()));
            }
        }
        Due.same("the program says what it prints", !due.isEmpty(), true);
        Files.createDirectories(PLACE);
        Files.write(PLACE.resolve("Shelf.java"), program, StandardCharsets.UTF_8);
        List<String> compiled = lines("javac", "-encoding", "UTF-8", "-d", PLACE.toString(),
            "src/main/java/TentativeDesk.java", PLACE.resolve("Shelf.java").toString());
        Due.same("javac's lines " + compiled, compiled.size(), 0);
        List<String> printed = lines("java", "-cp", PLACE.toString(), "Shelf");
        Due.same("the program's lines " + printed + ", said are " + due, printed.equals(due), true);
    }

    private static List<String> lines(String... command) throws IOException, InterruptedException {
        File kept = PLACE.resolve("lines").toFile();
        new ProcessBuilder(command).redirectErrorStream(true).redirectOutput(kept).start().waitFor();
        return Files.readAllLines(kept.toPath(), StandardCharsets.UTF_8);
    }

    private static void listIsWhole(List<String> readme) throws IOException {
        List<String> document = Files.readAllLines(DOCUMENT, StandardCharsets.UTF_8);
        for (Method method : TentativeDesk.class.getDeclaredMethods()) {
            if (Modifier.isPublic(method.getModifiers())) {
                String head = ": " + method.getName();
                String promise = document.stream().filter(line -> line.startsWith("## Promise ") && line.endsWith(head))
                    .map(line -> line.substring("## Promise ".length(), line.length() - head.length())).findFirst().orElse("none");
                String named = "`" + method.getName() + "` " + promise;
                Due.same("the list names " + named, readme.stream().anyMatch(line -> names(line, named)), true);
            }
        }
    }

    private static boolean names(String line, String named) {
        return line.startsWith("|") && (line.contains(named + ",") || line.contains(named + " |"));
    }

    private static void testsAreNamed(List<String> readme) throws IOException {
        try (Stream<Path> files = Files.list(Path.of("src/test/java"))) {
            for (String name : files.map(file -> file.getFileName().toString()).sorted().toList()) {
                if (name.endsWith("Test.java")) {
                    String test = "`" + name.substring(0, name.length() - ".java".length()) + "`";
                    Due.same("it tells what " + test + " is for", readme.stream().anyMatch(line -> line.contains(test)), true);
                }
            }
        }
    }
}
