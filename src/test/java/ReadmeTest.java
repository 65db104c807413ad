import java.io.IOException;
import java.nio.charset.StandardCharsets;
import java.nio.file.Files;
import java.nio.file.Path;
import java.util.ArrayList;
import java.util.List;
import java.util.stream.Stream;

/** README.md's example answers what the page says, compiled and run by the page's own lines; run from the project's folder. */
public final class ReadmeTest {
    private static final Path PROGRAM = Path.of("src/main/java/BellOfLies.java");
    private static int wrong = 0;

    public static void main(String[] args) throws IOException, InterruptedException {
        String page = Files.readString(Path.of("README.md"));
        List<String> commands = blocks(page, "sh");
        expect(commands.size() == 3, "the page has lines for the example, for all tests and for one test");
        expect(commands.get(1).equals("bash .ci/run\n"), "the page tells how all tests are run");
        exampleAnswersAsTold(page, commands.get(0));
        oneTestRuns(commands.get(2));
        everyTestIsNamed(page);
        System.out.println(wrong == 0 ? "the page holds" : wrong + " things are not as the page says");
        if (wrong != 0) {
            System.exit(1);
        }
    }

    private static void exampleAnswersAsTold(String page, String commands) throws IOException, InterruptedException {
        Path folder = copyOfTheProgram();
        Files.writeString(folder.resolve("Example.java"), blocks(page, "java").get(0));
        String got = outputOf(commands, folder);
        String due = blocks(page, "text").get(0);
        expect(got.equals(due), "the example answers\n" + got + "but the page says\n" + due);
        remove(folder);
    }

    private static void oneTestRuns(String commands) throws IOException, InterruptedException {
        Path folder = copyOfTheProgram();
        for (String from : new String[] { "src/test/support", "src/test/java" }) {
            Files.createDirectories(folder.resolve(from));
            for (Path file : filesIn(Path.of(from))) {
                Files.copy(file, folder.resolve(file));
            }
        }
        String got = outputOf(commands, folder);
        expect(got.endsWith("all answers are as due\n"), "one test alone says\n" + got);
        remove(folder);
    }

    private static void everyTestIsNamed(String page) throws IOException {
        for (Path test : filesIn(Path.of("src/test/java"))) {
            expect(page.contains(test.getFileName() + "`"), "the page's list names " + test);
        }
    }

    private static Path copyOfTheProgram() throws IOException {
        Path folder = Files.createTempDirectory("readme");
        Files.createDirectories(folder.resolve(PROGRAM).getParent());
        Files.copy(PROGRAM, folder.resolve(PROGRAM));
        return folder;
    }

    /** The texts of the page's fenced blocks of a language. */
    private static List<String> blocks(String page, String language) {
        List<String> found = new ArrayList<>();
        String fence = "\n```" + language + "\n";
        for (int at = page.indexOf(fence); at >= 0; at = page.indexOf(fence, at + 1)) {
            int start = at + fence.length();
            found.add(page.substring(start, page.indexOf("```", start)));
        }
        return found;
    }

    private static String outputOf(String commands, Path folder) throws IOException, InterruptedException {
        Process process = new ProcessBuilder("sh", "-e", "-c", commands)
            .directory(folder.toFile()).redirectErrorStream(true).start();
        process.getOutputStream().close();
        String output = new String(process.getInputStream().readAllBytes(), StandardCharsets.UTF_8);
        expect(process.waitFor() == 0, "the page's lines end well:\n" + commands);
        return output;
    }

    private static List<Path> filesIn(Path folder) throws IOException {
        try (Stream<Path> files = Files.list(folder)) {
            return files.sorted().toList();
        }
    }

    private static void remove(Path folder) throws IOException {
        try (Stream<Path> files = Files.walk(folder)) {
            for (Path file : files.sorted((a, b) -> b.compareTo(a)).toList()) {
                Files.delete(file);
            }
        }
    }

    private static void expect(boolean holds, String what) {
        if (!holds) {
            wrong++;
            System.out.println("not as due: " + what);
        }
    }
}
