import java.io.IOException;
import java.lang.reflect.Method;
import java.lang.reflect.Modifier;
import java.nio.file.Files;
import java.nio.file.Path;
import java.util.ArrayList;
import java.util.Comparator;
import java.util.List;
import java.util.stream.Stream;

/** What README.md says can be done as it stands; run in the directory of README.md, as .ci/run does. */
public final class ReadmeTest {
    private static final Path README = Path.of("README.md");
    private static final Path SOURCES = Path.of("src");
    private static final Path TESTS = SOURCES.resolve("test/java");
    private static final String CI = ".ci/run";

    public static void main(String[] args) throws IOException, InterruptedException {
        String page = Files.readString(README);
        Path room = Files.createTempDirectory("readme");
        try {
            copySources(room);
            example(page, room);
            commands(page, room);
        } finally {
            remove(room);
        }
        everyCallIsNamed(page);
        everyTestIsNamed(page);
        Expect.end();
    }

    private static void example(String page, Path room) throws IOException, InterruptedException {
        List<String> programs = blocks(page, "java");
        List<String> outputs = blocks(page, "text");
        Expect.same("programs", programs.size(), 1);
        Expect.same("outputs", outputs.size(), 1);
        Files.writeString(room.resolve("Example.java"), programs.get(0));
        String printed = shell("javac -d example Example.java src/main/java/ImageForge.java\n"
            + "java -cp example Example", room);
        Expect.that("the example prints\n" + outputs.get(0) + "but it printed\n" + printed,
            printed.equals(outputs.get(0)));
    }

    /** The command that runs all tests is running this one already, so it is looked at alone. */
    private static void commands(String page, Path room) throws IOException, InterruptedException {
        List<String> commands = blocks(page, "sh");
        Expect.that("the first command is " + CI, commands.get(0).equals(CI + "\n"));
        Expect.that(CI + " can be run", Files.isExecutable(Path.of(CI)));
        Expect.same("commands", commands.size(), 2);
        String printed = shell(commands.get(1), room);
        Expect.that("the test alone printed\n" + printed, printed.equals("all answers are as due\n"));
    }

    private static void everyCallIsNamed(String page) {
        for (Method method : ImageForge.class.getDeclaredMethods()) {
            if (Modifier.isPublic(method.getModifiers())) {
                Expect.that("a row for " + method.getName(), page.contains("\n| `" + method.getName() + "("));
            }
        }
    }

    private static void everyTestIsNamed(String page) throws IOException {
        try (Stream<Path> files = Files.list(TESTS)) {
            for (Path file : files.toList()) {
                String name = file.getFileName().toString().replace(".java", "");
                if (name.endsWith("Test")) {
                    Expect.that("a row with " + name, page.contains("`" + name + "`"));
                }
            }
        }
    }

    private static List<String> blocks(String page, String language) {
        List<String> found = new ArrayList<>();
        StringBuilder block = null;
        for (String line : page.split("\n")) {
            if (block == null) {
                block = line.equals("```" + language) ? new StringBuilder() : null;
            } else if (line.equals("```")) {
                found.add(block.toString());
                block = null;
            } else {
                block.append(line).append('\n');
            }
        }
        return found;
    }

    private static String shell(String commands, Path room) throws IOException, InterruptedException {
        Process process = new ProcessBuilder("sh", "-e", "-c", commands)
            .directory(room.toFile()).redirectError(ProcessBuilder.Redirect.INHERIT).start();
        String printed = new String(process.getInputStream().readAllBytes());
        Expect.same("exit code of\n" + commands, process.waitFor(), 0);
        return printed;
    }

    /** A copy, so that no command writes into the checkout or finds what an earlier one left there. */
    private static void copySources(Path room) throws IOException {
        try (Stream<Path> paths = Files.walk(SOURCES)) {
            for (Path path : paths.toList()) {
                Files.copy(path, room.resolve(path));
            }
        }
    }

    private static void remove(Path room) throws IOException {
        try (Stream<Path> paths = Files.walk(room)) {
            for (Path path : paths.sorted(Comparator.reverseOrder()).toList()) {
                Files.delete(path);
            }
        }
    }
}
