import java.io.IOException;
import java.nio.charset.StandardCharsets;
import java.nio.file.Files;
import java.nio.file.Path;
import java.util.ArrayList;
import java.util.Comparator;
import java.util.List;
import java.util.stream.Collectors;
import java.util.stream.Stream;

/** README.md is tried as it is written: its example, its commands, and the tests and files that it names. */
public final class Readme {
    private static int wrong = 0;

    private static void due(String what, Object got, Object want) {
        if (!got.equals(want)) {
            wrong++;
            System.out.println(what + " is " + got + ", due is " + want);
        }
    }

    /** The fenced blocks of this language, in their order. */
    private static List<String> blocks(List<String> lines, String language) {
        List<String> blocks = new ArrayList<>();
        StringBuilder block = new StringBuilder();
        String open = "";
        for (String line : lines) {
            if (!line.startsWith("```")) {
                block.append(line).append('\n');
            } else if (open.isEmpty()) {
                open = line;
                block.setLength(0);
            } else {
                if (open.equals("```" + language)) {
                    blocks.add(block.toString());
                }
                open = "";
            }
        }
        due("the fence that is open at the end", open, "");
        return blocks;
    }

    private static void copy(Path from, Path to) throws IOException {
        for (Path file : files(from)) {
            Path target = to.resolve(from.relativize(file).toString());
            Files.createDirectories(target.getParent());
            Files.copy(file, target);
        }
    }

    private static List<Path> files(Path folder) throws IOException {
        try (Stream<Path> found = Files.walk(folder)) {
            return found.filter(Files::isRegularFile).sorted().collect(Collectors.toList());
        }
    }

    private static void delete(Path folder) throws IOException {
        try (Stream<Path> found = Files.walk(folder)) {
            for (Path path : found.sorted(Comparator.reverseOrder()).collect(Collectors.toList())) {
                Files.delete(path);
            }
        }
    }

    /** Runs the lines of a block. Returns what they print, without what java may say of its options. */
    private static String printed(String commands, Path folder) throws Exception {
        Process process = new ProcessBuilder("sh", "-eu", "-c", commands)
            .directory(folder.toFile()).redirectError(ProcessBuilder.Redirect.INHERIT).start();
        String printed = new String(process.getInputStream().readAllBytes(), StandardCharsets.UTF_8);
        due("the exit code of " + commands, process.waitFor(), 0);
        return printed;
    }

    private static void tryBlocks(List<String> lines, Path folder) throws Exception {
        List<String> examples = blocks(lines, "java");
        List<String> commands = blocks(lines, "sh");
        List<String> outputs = blocks(lines, "text");
        due("the number of examples", examples.size(), 1);
        due("the number of blocks of commands", commands.size(), 2);
        due("the number of outputs", outputs.size(), 1);
        if (wrong > 0) {
            return;
        }
        copy(Path.of("src"), folder.resolve("src"));
        Files.writeString(folder.resolve("Example.java"), examples.get(0));
        due("what the example prints", printed(commands.get(0), folder), outputs.get(0));
        printed(commands.get(1), folder);
    }

    /** Each test and each helper stands in README.md, and what its list names is there. */
    private static void names(List<String> lines) throws IOException {
        String page = String.join("\n", lines);
        for (Path file : files(Path.of("src/test"))) {
            String name = "`" + file.getFileName().toString().replace(".java", "") + "`";
            due("README.md names " + name, page.contains(name), true);
        }
        for (String line : lines) {
            if (line.startsWith("- `")) {
                String name = line.substring(3, line.indexOf('`', 3));
                due(name + " is a test", Files.exists(Path.of("src/test/java", name + ".java")), true);
            }
        }
        due("README.md tells of .ci/run", lines.contains("    .ci/run"), true);
        due(".ci/run can be run", Files.isExecutable(Path.of(".ci/run")), true);
    }

    public static void main(String[] args) throws Exception {
        List<String> lines = Files.readAllLines(Path.of("README.md"), StandardCharsets.UTF_8);
        Path folder = Files.createTempDirectory("readme");
        try {
            tryBlocks(lines, folder);
        } finally {
            delete(folder);
        }
        names(lines);
        System.out.println(wrong == 0 ? "README.md is as it is written" : wrong + " things are not as written");
        if (wrong != 0) {
            System.exit(1);
        }
    }
}
