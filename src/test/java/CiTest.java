import java.io.IOException;
import java.nio.file.Files;
import java.nio.file.Path;
import java.util.ArrayList;
import java.util.List;
import java.util.stream.Stream;

/** .ci/run takes each test of the project and of ../shared/tests, and fails if one does. */
public final class CiTest {
    private static final Path HERE = Path.of("").toAbsolutePath();
    private static final Path RUN = Path.of(".ci/run");
    private static final Path TESTS = Path.of("src/test/java");
    private static final Path SHARED = Path.of("../shared/tests");

    public static void main(String[] arguments) throws Exception {
        Check.due(".ci/run can be executed", Files.isExecutable(RUN), true);
        eachTestIsTaken();
        eachFailureFails();
        noTestFails();
        Check.end();
    }

    private static void eachTestIsTaken() throws IOException, InterruptedException {
        List<String> told = Commands.ofCi(HERE, 0).told;
        for (Path test : javaFiles(TESTS)) {
            String command = compiling(told, test);
            Check.due(test + " is compiled with the class", command.contains(" src/main/java/Castlequorum.java "), true);
            if (test.toString().endsWith("Test.java")) {
                Check.due(test + " is run", told.contains(running(command, test)), true);
            }
        }
        for (Path test : javaFiles(SHARED)) {
            String command = compiling(told, test);
            Check.due(test + " is compiled with the class alone", Commands.anyFolder(command),
                "javac -encoding UTF-8 -d FOLDER src/main/java/Castlequorum.java " + test);
            Check.due(test + " is run", told.contains(running(command, test)), true);
        }
    }

    private static void eachFailureFails() throws IOException, InterruptedException {
        Commands whole = Commands.ofCi(HERE, 0);
        Check.due("the exit code if none fails", whole.exitCode, 0);
        for (int failing = 1; failing <= whole.told.size(); failing++) {
            String command = Commands.anyFolder(whole.told.get(failing - 1));
            Check.due("the exit code if this fails: " + command, Commands.ofCi(HERE, failing).exitCode, 1);
        }
    }

    private static void noTestFails() throws Exception {
        Path around = Scratch.folder();
        Path project = around.resolve("main");
        Path ofProject = project.resolve(TESTS).resolve("OneTest.java");
        Path ofShared = around.resolve("shared/tests/Runs.java");
        Files.createDirectories(project.resolve(".ci"));
        Files.createDirectories(ofProject.getParent());
        Files.createDirectories(ofShared.getParent());
        Files.copy(RUN, project.resolve(RUN));
        Check.due("the exit code if there is no test", Commands.ofCi(project, 0).exitCode, 1);
        Files.createFile(ofProject);
        Check.due("the exit code if there is no shared test", Commands.ofCi(project, 0).exitCode, 1);
        Files.createFile(ofShared);
        Check.due("the exit code if there is one of each", Commands.ofCi(project, 0).exitCode, 0);
        Files.delete(ofProject);
        Files.createFile(project.resolve(TESTS).resolve("Helper.java"));
        Check.due("the exit code if the project has a helper alone", Commands.ofCi(project, 0).exitCode, 1);
    }

    private static List<Path> javaFiles(Path folder) throws IOException {
        List<Path> files = new ArrayList<>();
        try (Stream<Path> all = Files.list(folder)) {
            all.filter(file -> file.toString().endsWith(".java")).sorted().forEach(files::add);
        }
        Check.due(folder + " has a Java file", files.isEmpty(), false);
        return files;
    }

    private static String compiling(List<String> told, Path test) {
        for (String command : told) {
            if (command.startsWith("javac ") && (command + " ").contains(" " + test + " ")) {
                return command;
            }
        }
        return "";
    }

    /** What runs a test from the folder to which a command compiled it. */
    private static String running(String compiling, Path test) {
        String folder = compiling.replaceAll(".* -d (\\S+) .*", "$1");
        return "java -ea -cp " + folder + " " + test.getFileName().toString().replace(".java", "");
    }
}
