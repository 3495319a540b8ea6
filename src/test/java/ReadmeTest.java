import java.io.IOException;
import java.lang.reflect.Method;
import java.lang.reflect.Modifier;
import java.nio.charset.StandardCharsets;
import java.nio.file.Files;
import java.nio.file.Path;
import java.util.ArrayList;
import java.util.Comparator;
import java.util.List;
import java.util.regex.Matcher;
import java.util.regex.Pattern;
import java.util.stream.Stream;

/** README.md does what it says: its program, its commands and its text are tried in a copy of the project. */
public final class ReadmeTest {
    private static final Check CHECK = new Check();
    private static final Pattern BLOCK = Pattern.compile("(?ms)^```(\\w+)\n(.*?)^```$");

    private record Result(int code, String printed) { }

    public static void main(String[] args) throws IOException, InterruptedException {
        String readme = Files.readString(Path.of("README.md"));
        Path room = Files.createTempDirectory("readme");
        try {
            Path copy = copyOfProject(room);
            commands(readme, copy);
        } finally {
            remove(room);
        }
        statute(readme);
        everyCallIsNamed(readme);
        everyTestIsNamed(readme);
        CHECK.end();
    }

    private static Path copyOfProject(Path room) throws IOException {
        Path copy = Files.createDirectory(room.resolve("project"));
        Files.createSymbolicLink(copy.resolve("src"), Path.of("src").toAbsolutePath());
        Files.createSymbolicLink(room.resolve("shared"), Path.of("../shared").toRealPath());
        return copy;
    }

    private static void commands(String readme, Path copy) throws IOException, InterruptedException {
        Files.writeString(copy.resolve("Example.java"), blocks(readme, "java").get(0));
        List<String> commands = blocks(readme, "sh");
        CHECK.due("blocks of commands", commands.size(), 4);
        Result example = run(commands.get(0), copy);
        CHECK.due("the program's end", example.code(), 0);
        String promised = blocks(readme, "text").get(0);
        CHECK.due("the program prints:\n" + example.printed() + "as promised", example.printed().equals(promised), true);

        // This test is one of those that .ci/run runs, so here it is only looked at.
        CHECK.due("the command for all is .ci/run", commands.get(1).equals(".ci/run\n"), true);
        CHECK.due(".ci/run is executable", Files.isExecutable(Path.of(".ci/run")), true);

        Result own = run(commands.get(2), copy);
        CHECK.due("one test of the project alone:\n" + own.printed() + "its end", own.code(), 0);
        CHECK.due("it asked something", own.printed().contains(" answers, 0 of them wrong"), true);
        Result shared = run(commands.get(3), copy);
        CHECK.due("one shared test alone:\n" + shared.printed() + "its end", shared.code(), 0);
        CHECK.due("it says so", shared.printed().contains("all answers are as due"), true);
    }

    private static void statute(String readme) {
        Mutual x = new Mutual();
        String text = blocks(readme, "text").get(1);
        CHECK.due("the text is voted", Check.vote(x, text, 0), 0);
        CHECK.due("its fault", x.fault(0), 0);
        CHECK.due("its lines", x.count(5), 7);
        CHECK.due("season of hay in month 6", x.law(7, 180, 0), 150);
        CHECK.due("other 1", x.law(17, 0, 0), 50);
    }

    private static void everyCallIsNamed(String readme) {
        for (Method m : FireMutual.class.getDeclaredMethods()) {
            if (Modifier.isPublic(m.getModifiers())) {
                CHECK.due(m.getName() + " is named", readme.contains("`" + m.getName() + "`"), true);
            }
        }
    }

    private static void everyTestIsNamed(String readme) throws IOException {
        try (Stream<Path> files = Files.list(Path.of("src/test/java"))) {
            for (Path file : files.toList()) {
                String name = file.getFileName().toString().replace(".java", "");
                if (name.endsWith("Test") && !name.endsWith("EdgesTest")) {
                    CHECK.due(name + " is named", readme.contains("`" + name + "`"), true);
                }
            }
        }
    }

    private static List<String> blocks(String readme, String kind) {
        List<String> found = new ArrayList<>();
        Matcher m = BLOCK.matcher(readme);
        while (m.find()) {
            if (m.group(1).equals(kind)) {
                found.add(m.group(2));
            }
        }
        return found;
    }

    private static Result run(String commands, Path folder) throws IOException, InterruptedException {
        Process p = new ProcessBuilder("bash", "-e", "-c", commands).directory(folder.toFile())
            .redirectError(ProcessBuilder.Redirect.INHERIT).start();
        String printed = new String(p.getInputStream().readAllBytes(), StandardCharsets.UTF_8);
        return new Result(p.waitFor(), printed);
    }

    private static void remove(Path room) throws IOException {
        // Links are removed, not followed.
        try (Stream<Path> all = Files.walk(room)) {
            for (Path path : all.sorted(Comparator.reverseOrder()).toList()) {
                Files.delete(path);
            }
        }
    }
}
