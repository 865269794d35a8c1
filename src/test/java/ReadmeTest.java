import java.io.IOException;
import java.nio.file.Files;
import java.nio.file.Path;
import java.util.ArrayList;
import java.util.Comparator;
import java.util.List;
import java.util.concurrent.TimeUnit;
import java.util.regex.Matcher;
import java.util.regex.Pattern;
import java.util.stream.Stream;

/** What README.md shows is tried: each call with its answer, each command, and the text of a process. */
public final class ReadmeTest {
    private static final Path README = Path.of("README.md");
    private static final String ALL_TESTS = ".ci/run";
    private static final Pattern BLOCK = Pattern.compile("^```(\\w+)\n(.*?)^```$", Pattern.MULTILINE | Pattern.DOTALL);
    private static final Pattern CALL = Pattern.compile("(\\S.*\\));\\s+// (throws \\w+|[-.\\d]+): \\S.*");

    public static void main(String[] args) throws IOException, InterruptedException {
        String text = Files.readString(README);
        Path room = Files.createTempDirectory("readme");
        try {
            Path project = copyOfProject(room);
            calls(project, blocks(text, "java"));
            commands(project, blocks(text, "sh"));
        } finally {
            removeAll(room);
        }
        process(text);
        testsAreTold(text);
        Check.end();
    }

    private static List<String> blocks(String text, String kind) {
        List<String> lines = new ArrayList<>();
        Matcher matcher = BLOCK.matcher(text);
        while (matcher.find()) {
            if (matcher.group(1).equals(kind)) {
                lines.addAll(matcher.group(2).lines().toList());
            }
        }
        return lines;
    }

    /** The commands write into a copy, and find ../shared beside it. */
    private static Path copyOfProject(Path room) throws IOException {
        Path project = Files.createDirectories(room.resolve("main"));
        copy(Path.of("src"), project.resolve("src"));
        copy(Path.of("..", "shared"), room.resolve("shared"));
        return project;
    }

    private static void copy(Path from, Path to) throws IOException {
        try (Stream<Path> files = Files.walk(from)) {
            for (Path file : files.toList()) {
                Path target = to.resolve(from.relativize(file).toString());
                if (Files.isDirectory(file)) {
                    Files.createDirectories(target);
                } else {
                    Files.copy(file, target);
                }
            }
        }
    }

    private static void removeAll(Path room) throws IOException {
        try (Stream<Path> files = Files.walk(room)) {
            for (Path file : files.sorted(Comparator.reverseOrder()).toList()) {
                Files.delete(file);
            }
        }
    }

    /** The lines become a program that prints the answer of each call. */
    private static void calls(Path project, List<String> lines) throws IOException, InterruptedException {
        StringBuilder program = new StringBuilder("public class Readme {\n    public static void main(String[] args) {\n");
        List<String> due = new ArrayList<>();
        for (String line : lines) {
            Matcher call = CALL.matcher(line);
            if (call.matches()) {
                program.append("try { System.out.println(").append(call.group(1)).append("); }\n");
                program.append("catch (RuntimeException e) { System.out.println(\"throws \" + e.getClass().getSimpleName()); }\n");
                due.add(call.group(1) + " -> " + call.group(2));
            } else {
                Check.due("a line that tells no answer", line.replaceAll("\\w+ = new", "_ = new"),
                        "FeedbackQueueSimulator _ = new FeedbackQueueSimulator();");
                program.append(line).append('\n');
            }
        }
        Files.writeString(project.resolve("Readme.java"), program.append("    }\n}\n").toString());
        String got = tried(project, "javac -d calls src/main/java/FeedbackQueueSimulator.java Readme.java && java -cp calls Readme");
        List<String> answers = got.lines().toList();
        Check.due("a run of calls", due.size() > 10 ? 1 : 0, 1);
        Check.due("answers", answers.size(), due.size());
        for (int k = 0; k < due.size() && k < answers.size(); k++) {
            String call = due.get(k).substring(0, due.get(k).indexOf(" -> "));
            Check.due("README", call + " -> " + answers.get(k), due.get(k));
        }
    }

    /** The command that runs all tests is the one that is running this one. */
    private static void commands(Path project, List<String> lines) throws IOException, InterruptedException {
        Check.due("commands", lines.contains(ALL_TESTS) && lines.size() > 2 ? 1 : 0, 1);
        Check.due("it can be run: " + ALL_TESTS, Files.isExecutable(Path.of(ALL_TESTS)) ? 1 : 0, 1);
        for (String line : lines) {
            if (!line.equals(ALL_TESTS)) {
                tried(project, line);
            }
        }
    }

    private static String tried(Path project, String command) throws IOException, InterruptedException {
        Path output = Files.createTempFile(project, "output", ".txt");
        Process process = new ProcessBuilder("sh", "-c", command).directory(project.toFile())
                .redirectErrorStream(true).redirectOutput(output.toFile()).start();
        boolean over = process.waitFor(300, TimeUnit.SECONDS);
        process.destroyForcibly();
        String got = Files.readString(output);
        String code = over ? "" + process.exitValue() : "no end";
        Check.due(command, code.equals("0") ? code : code + "\n" + got, "0");
        return got;
    }

    /** Nine times 2 ticks and an operation of 5, then 30 ticks and a yield, then two times 1 tick. */
    private static void process(String text) {
        Matcher matcher = Pattern.compile("`(spawn[^`]*)`").matcher(text);
        Check.due("the text of a process", matcher.find() ? 1 : 0, 1);
        FeedbackQueueSimulator x = new FeedbackQueueSimulator();
        Check.good(x, matcher.group(1), 1);
        Check.due("user", x.property(0, 0), 0);
        Check.due("kind", x.property(0, 1), 1);
        Check.due("idle ticks", x.run(9 * 7 + 32), 9 * 5);
        Check.due("end", x.property(0, 8), 9 * 7 + 32);
        Check.due("give-ups", x.property(0, 9), 10);
    }

    private static void testsAreTold(String text) throws IOException {
        try (Stream<Path> files = Files.list(Path.of("src", "test", "java"))) {
            for (Path file : files.toList()) {
                String name = file.getFileName().toString().replace(".java", "");
                if (name.endsWith("Test")) {
                    Check.due("told: " + name, text.contains("`" + name + "`") ? 1 : 0, 1);
                }
            }
        }
    }
}
