import java.io.IOException;
import java.lang.reflect.Method;
import java.lang.reflect.Modifier;
import java.nio.charset.StandardCharsets;
import java.nio.file.DirectoryStream;
import java.nio.file.Files;
import java.nio.file.Path;
import java.nio.file.StandardCopyOption;
import java.util.ArrayList;
import java.util.List;
import java.util.TreeSet;
import java.util.regex.Matcher;
import java.util.regex.Pattern;

/** What README.md says is true as it stands there: its example, its commands and its lists. */
public final class ReadmeTest {
    private static final Due DUE = new Due("ReadmeTest");
    private static final Path CLASS = Path.of("src", "main", "java", "GhostCandles.java");
    private static final Path TESTS = Path.of("src", "test", "java");
    /** A place of its own, laid out as the project is, for what the README tells to write there. */
    private static final Path ROOM = Path.of("build", "readme");

    public static void main(String[] args) throws IOException, InterruptedException {
        List<String> use = chapter("## How to use it");
        exampleAnswersAsItSays(use);
        callsAreThese(use);
        List<String> tests = chapter("## How to run its tests");
        testsAreThese(tests);
        commandsOfTestsRun(tests);
        DUE.end();
    }

    private static List<String> chapter(String title) throws IOException {
        List<String> lines = new ArrayList<>();
        boolean inside = false;
        for (String line : Files.readAllLines(Path.of("README.md"))) {
            inside = line.startsWith("## ") ? line.equals(title) : inside;
            if (inside) {
                lines.add(line);
            }
        }
        DUE.is("there is a chapter " + title, lines.isEmpty(), false);
        return lines;
    }

    /** The lines that are indented by four, outside of what stands between fences. */
    private static List<String> commands(List<String> chapter) {
        List<String> commands = new ArrayList<>();
        boolean fenced = false;
        for (String line : chapter) {
            fenced = fenced ^ line.startsWith("```");
            if (!fenced && line.startsWith("    ")) {
                commands.add(line.trim());
            }
        }
        return commands;
    }

    private static List<String> example(List<String> chapter) {
        int first = chapter.indexOf("```java");
        int last = chapter.indexOf("```");
        boolean there = first >= 0 && last > first;
        DUE.is("there is an example", there, true);
        return there ? chapter.subList(first + 1, last) : List.of();
    }

    private static void exampleAnswersAsItSays(List<String> chapter)
            throws IOException, InterruptedException {
        Path copy = ROOM.resolve(CLASS);
        Files.createDirectories(copy.getParent());
        Files.copy(CLASS, copy, StandardCopyOption.REPLACE_EXISTING);
        Files.write(ROOM.resolve("Example.java"), example(chapter));
        String printed = "";
        for (String command : commands(chapter)) {
            DUE.is("before the last command nothing is printed", printed, "");
            printed = printed(ROOM, command);
        }
        List<String> due = new ArrayList<>();
        Pattern told = Pattern.compile(" *System\\.out\\.println\\(.*\\); *// ([^ :]+): .*");
        for (String line : example(chapter)) {
            Matcher matcher = told.matcher(line);
            boolean tells = matcher.matches();
            DUE.is("what is printed is told in " + line, tells, line.contains("println"));
            if (tells) {
                due.add(matcher.group(1));
            }
        }
        DUE.is("something is printed", due.isEmpty(), false);
        DUE.is("what the example prints", List.of(printed.split("\\R")), due);
    }

    private static String printed(Path directory, String command)
            throws IOException, InterruptedException {
        Process process = new ProcessBuilder(command.split(" ")).directory(directory.toFile())
                .redirectError(ProcessBuilder.Redirect.INHERIT).start();
        String printed = new String(process.getInputStream().readAllBytes(), StandardCharsets.UTF_8);
        DUE.is("exit code of " + command, process.waitFor(), 0);
        return printed;
    }

    /** What stands between backticks in the rows of a table, ahead of the second column. */
    private static TreeSet<String> listed(List<String> chapter) {
        TreeSet<String> names = new TreeSet<>();
        Pattern name = Pattern.compile("`(\\w+)`");
        for (String line : chapter) {
            if (line.startsWith("|")) {
                Matcher matcher = name.matcher(line.split("\\|")[1]);
                while (matcher.find()) {
                    DUE.is(matcher.group(1) + " is listed once", names.add(matcher.group(1)), true);
                }
            }
        }
        return names;
    }

    private static void callsAreThese(List<String> chapter) {
        TreeSet<String> due = new TreeSet<>();
        for (Method method : GhostCandles.class.getDeclaredMethods()) {
            if (Modifier.isPublic(method.getModifiers())) {
                due.add(method.getName());
            }
        }
        DUE.is("calls", listed(chapter), due);
    }

    private static void testsAreThese(List<String> chapter) throws IOException {
        TreeSet<String> due = new TreeSet<>();
        try (DirectoryStream<Path> files = Files.newDirectoryStream(TESTS, "*Test.java")) {
            for (Path file : files) {
                due.add(file.getFileName().toString().replace(".java", ""));
            }
        }
        DUE.is("tests", listed(chapter), due);
    }

    private static void commandsOfTestsRun(List<String> chapter)
            throws IOException, InterruptedException {
        List<String> commands = commands(chapter);
        DUE.is("commands", commands.size(), 2);
        // The first one runs this very test, so it is not run here again.
        Path first = Path.of(commands.get(0));
        DUE.is("the first one can be run", Files.isExecutable(first), true);
        DUE.is("there are tests", printed(Path.of("."), commands.get(1)).contains("as due"), true);
    }
}
