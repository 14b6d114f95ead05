import java.io.IOException;
import java.lang.reflect.Method;
import java.lang.reflect.Modifier;
import java.net.URL;
import java.net.URLClassLoader;
import java.nio.charset.StandardCharsets;
import java.nio.file.Files;
import java.nio.file.Path;
import java.util.ArrayList;
import java.util.List;
import java.util.regex.Matcher;
import java.util.regex.Pattern;
import java.util.stream.Stream;
import javax.tools.ToolProvider;

/** README.md: its calls compile and answer as it says, and its way to run the tests is that of .ci/run. */
public final class ReadmeTest {
    private static final Path HERE = Path.of("").toAbsolutePath();
    private static final Path TESTS = Path.of("src/test/java");
    private static final String NEW_GAME = "Castlequorum game = new Castlequorum();";
    /** A call, its answer, and perhaps what it means. */
    private static final Pattern CALL = Pattern.compile("(game\\.(\\w+)\\(.*\\)); +// ([^:]+)(: .+)?");

    public static void main(String[] arguments) throws Exception {
        String page = Files.readString(Path.of("README.md"), StandardCharsets.UTF_8);
        calls(blocks(page, "java"));
        commands(blocks(page, "sh"));
        testsAreTold(page);
        Check.end();
    }

    private static List<String> blocks(String page, String language) {
        List<String> blocks = new ArrayList<>();
        Matcher block = Pattern.compile("(?ms)^```" + language + "\n(.*?)^```$").matcher(page);
        while (block.find()) {
            blocks.add(block.group(1));
        }
        Check.due("README.md has a block of " + language, blocks.isEmpty(), false);
        return blocks;
    }

    private static void calls(List<String> blocks) throws Exception {
        List<String> calls = new ArrayList<>();
        List<String> due = new ArrayList<>();
        List<String> names = new ArrayList<>();
        for (String line : String.join("", blocks).split("\n")) {
            Matcher call = CALL.matcher(line);
            if (call.matches()) {
                calls.add(call.group(1));
                names.add(call.group(2));
                due.add(call.group(3));
            } else {
                Check.due("a line without a call and its answer begins", line.startsWith(NEW_GAME) && calls.isEmpty()
                    ? NEW_GAME : line, NEW_GAME);
            }
        }
        List<String> got = played(String.join("", blocks), calls);
        for (int call = 0; call < calls.size(); call++) {
            Check.due("README.md, call " + call + ": " + calls.get(call), call < got.size() ? got.get(call) : "nothing",
                due.get(call));
        }
        for (Method method : Castlequorum.class.getDeclaredMethods()) {
            if (Modifier.isPublic(method.getModifiers())) {
                Check.due("README.md shows " + method.getName(), names.contains(method.getName()), true);
            }
        }
    }

    /** The answers of all calls in turn; none if the lines, as they stand, do not compile. */
    private static List<String> played(String lines, List<String> calls) throws Exception {
        Path folder = Scratch.folder();
        Path source = folder.resolve("ReadmeCalls.java");
        Files.writeString(source, program(lines, calls));
        int code = ToolProvider.getSystemJavaCompiler().run(null, null, null, "-encoding", "UTF-8",
            "-d", folder.toString(), "-cp", System.getProperty("java.class.path"), source.toString());
        Check.due("the exit code of javac for the calls of README.md", code, 0);
        List<String> answers = new ArrayList<>();
        if (code == 0) {
            try (URLClassLoader loader = new URLClassLoader(new URL[] {folder.toUri().toURL()})) {
                loader.loadClass("ReadmeCalls").getMethod("play", List.class).invoke(null, answers);
            }
        }
        return answers;
    }

    private static String program(String lines, List<String> calls) {
        StringBuilder program = new StringBuilder("public final class ReadmeCalls {\npublic static void asShown() {\n")
            .append(lines).append("}\npublic static void play(java.util.List<String> answers) {\n").append(NEW_GAME);
        for (String call : calls) {
            program.append("\ntry { answers.add(String.valueOf(").append(call).append(")); }")
                .append(" catch (RuntimeException thrown) {")
                .append(" answers.add(\"throws \" + thrown.getClass().getSimpleName()); }");
        }
        return program.append("\n}\n}\n").toString();
    }

    private static void commands(List<String> blocks) throws IOException, InterruptedException {
        Check.due("the first command of README.md", blocks.get(0).trim(), ".ci/run");
        List<String> taken = new ArrayList<>();
        for (String command : Commands.ofCi(HERE, 0).told) {
            taken.add(Commands.anyFolder(command));
        }
        Check.due("README.md has blocks for the project's tests and for the shared ones", blocks.size(), 3);
        for (String byHand : blocks.subList(1, blocks.size())) {
            byHand(byHand, taken);
        }
    }

    private static void byHand(String block, List<String> taken) throws IOException, InterruptedException {
        for (String line : block.split("\n")) {
            Check.due("README.md takes no other program: " + line, line.matches(" *(javac|java|for|done)\\b.*"), true);
        }
        List<String> shown = Commands.of(HERE, block).told;
        String folder = "";
        for (int at = 0; at < shown.size(); at++) {
            String command = shown.get(at);
            Check.due(".ci/run takes: " + command, taken.contains(Commands.anyFolder(command)), true);
            Check.due(command + " compiles, then runs", command.startsWith(at % 2 == 0 ? "javac " : "java "), true);
            String named = command.replaceAll(".* -(d|cp) (\\S+) .*", "$2");
            Check.due(command + " is of the folder", named, at % 2 == 0 ? named : folder);
            folder = named;
        }
        Check.due("README.md runs at least one test, and compiles none without: " + block,
            !shown.isEmpty() && shown.size() % 2 == 0, true);
    }

    private static void testsAreTold(String page) throws IOException {
        try (Stream<Path> files = Files.list(TESTS)) {
            files.map(file -> file.getFileName().toString().replace(".java", "")).filter(name -> name.endsWith("Test"))
                .forEach(name -> Check.due("README.md tells of " + name, page.contains("`" + name + "`"), true));
        }
    }
}
