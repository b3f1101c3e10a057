import java.io.IOException;
import java.nio.charset.StandardCharsets;
import java.nio.file.Files;
import java.nio.file.Path;
import java.util.ArrayList;
import java.util.Comparator;
import java.util.List;
import java.util.regex.Matcher;
import java.util.regex.Pattern;
import java.util.stream.Collectors;
import java.util.stream.Stream;

/** README.md followed word by word: its program saved, its commands run, its output held against theirs. */
public final class ReadmeTest {
    public static void main(String[] args) throws IOException, InterruptedException {
        String readme = Files.readString(Path.of("README.md"), StandardCharsets.UTF_8);
        Path project = Files.createTempDirectory("readme");
        Path source = project.resolve("src/main/java/CoverFires.java");
        Files.createDirectories(source.getParent());
        Files.copy(Path.of("src/main/java/CoverFires.java"), source);
        Files.writeString(project.resolve("Winter.java"), block(readme, "java", 0));
        String printed = run(project, block(readme, "sh", 0));
        boolean like = printed.equals(block(readme, "text", 0));
        Due.is("README.md's program prints what it says", like, true);
        if (!like) {
            System.out.println(printed);
        }
        named(readme);
        remove(project);
        Due.finish();
    }

    /** What stands between the fences of the which-th block of a kind. */
    private static String block(String readme, String kind, int which) {
        Matcher matcher = Pattern.compile("(?s)```" + kind + "\n(.*?)```").matcher(readme);
        List<String> blocks = new ArrayList<>();
        while (matcher.find()) {
            blocks.add(matcher.group(1));
        }
        Due.is("block " + which + " of " + kind, which < blocks.size(), true);
        return which < blocks.size() ? blocks.get(which) : "";
    }

    private static String run(Path project, String commands) throws IOException, InterruptedException {
        Process process = new ProcessBuilder("sh", "-e", "-c", commands).directory(project.toFile())
                .redirectErrorStream(true).start();
        String printed = new String(process.getInputStream().readAllBytes(), StandardCharsets.UTF_8);
        Due.is("README.md's commands end with", process.waitFor(), 0);
        return printed;
    }

    /** Each file that README.md names is there; the tests' command is what CI runs. */
    private static void named(String readme) {
        for (String file : List.of("src/main/java/CoverFires.java", "../shared/DOC.md", "../shared/tests",
                "src/test/java", ".ci/run")) {
            Due.is("README.md names " + file, readme.contains(file), true);
            Due.is(file + " is there", Files.exists(Path.of(file)), true);
        }
        Due.is("the tests' command", block(readme, "sh", 1).equals("bash .ci/run\n"), true);
    }

    private static void remove(Path project) throws IOException {
        List<Path> all;
        try (Stream<Path> walk = Files.walk(project)) {
            all = walk.sorted(Comparator.reverseOrder()).collect(Collectors.toList());
        }
        for (Path path : all) {
            Files.delete(path);
        }
    }
}
