import java.io.File;
import java.io.IOException;
import java.nio.file.Files;
import java.nio.file.Path;
import java.util.ArrayList;
import java.util.Comparator;
import java.util.List;
import java.util.regex.Matcher;
import java.util.regex.Pattern;
import java.util.stream.Stream;

/** What README.md tells to run, runs as it stands, and its program prints what is told there. */
public final class ReadmeTest {
    /** This test is one of those that it runs. */
    private static final String ALL_TESTS = ".ci/run\n";
    private static final Pattern BLOCK = Pattern.compile("```(\\w+)\n(.*?)```", Pattern.DOTALL);

    private int wrong;
    private int commands;

    private ReadmeTest() {
    }

    public static void main(String[] args) throws IOException, InterruptedException {
        Path room = Files.createTempDirectory("readme");
        ReadmeTest test = new ReadmeTest();
        try {
            test.runAll(folderLikeThis(room), Files.readString(Path.of("README.md")));
        } finally {
            remove(room);
        }
        System.out.println("ReadmeTest: " + test.commands + " blocks run, wrong: " + test.wrong);
        System.exit(test.wrong == 0 && test.commands > 2 ? 0 : 1);
    }

    /** So that what the commands make does not stay in the project. */
    private static Path folderLikeThis(Path room) throws IOException {
        Path folder = Files.createDirectory(room.resolve("main"));
        Files.createSymbolicLink(folder.resolve("src"), Path.of("src").toRealPath());
        Files.createSymbolicLink(folder.resolve("README.md"), Path.of("README.md").toRealPath());
        Files.createSymbolicLink(room.resolve("shared"), Path.of("../shared").toRealPath());
        return folder;
    }

    private static void remove(Path room) throws IOException {
        List<Path> paths = new ArrayList<>();
        try (Stream<Path> walk = Files.walk(room)) {
            walk.sorted(Comparator.reverseOrder()).forEach(paths::add);
        }
        for (Path path : paths) {
            Files.delete(path);
        }
    }

    private void check(boolean right, String what) {
        if (!right) {
            wrong++;
            System.out.println("ReadmeTest: " + what);
        }
    }

    private void runAll(Path folder, String readme) throws IOException, InterruptedException {
        boolean tellsAllTests = false;
        String printed = "";
        Matcher block = BLOCK.matcher(readme);
        while (block.find()) {
            String body = block.group(2);
            if (block.group(1).equals("java")) {
                check(body.equals(Files.readString(Path.of("src/example/java/Example.java"))), "another program than Example.java");
            } else if (block.group(1).equals("text")) {
                check(body.equals(printed), "prints\n" + printed + "told is\n" + body);
            } else if (body.equals(ALL_TESTS)) {
                tellsAllTests = Files.isExecutable(Path.of(".ci/run"));
            } else {
                printed = run(folder, body);
            }
        }
        check(tellsAllTests, "does not tell how to run all tests");
    }

    private String run(Path folder, String script) throws IOException, InterruptedException {
        commands++;
        File printed = folder.resolve("printed").toFile();
        Process process = new ProcessBuilder("sh", "-e", "-c", script).directory(folder.toFile())
            .redirectErrorStream(true).redirectOutput(printed).start();
        int code = process.waitFor();
        String text = Files.readString(printed.toPath());
        check(code == 0, "ends with " + code + ":\n" + script + text);
        return text;
    }
}
