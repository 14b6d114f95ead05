import java.io.IOException;
import java.nio.charset.StandardCharsets;
import java.nio.file.Path;
import java.util.ArrayList;
import java.util.List;

/** What a shell script takes of javac and java: both are told, and neither is run. */
final class Commands {
    private static final String MARK = "COMMAND ";
    private static final String FAILING = "FAILING_COMMAND";
    // functions of the shell go ahead of programs, so that a script that is read by '.' meets these alone
    private static final String STAND_INS = "commands=0\n"
        + "command_told() { echo \"" + MARK + "$*\"; commands=$((commands + 1)); [ $commands -ne $" + FAILING + " ]; }\n"
        + "javac() { command_told javac \"$@\"; }\n"
        + "java() { command_told java \"$@\"; }\n";

    final List<String> told = new ArrayList<>();
    final int exitCode;

    /** The command that bears this number, from 1, fails; none does for 0. */
    private Commands(Path folder, String script, int failing) throws IOException, InterruptedException {
        // were the stand-ins not met, a test that reads .ci/run would be run by it again, and without an end
        if (System.getenv(FAILING) != null) {
            throw new IllegalStateException("a script has run java itself, not what stands in for it");
        }
        ProcessBuilder shell = new ProcessBuilder("sh", "-c", STAND_INS + script, ".ci/run");
        shell.environment().put(FAILING, String.valueOf(failing));
        Process process = shell.directory(folder.toFile()).redirectErrorStream(true).start();
        String printed = new String(process.getInputStream().readAllBytes(), StandardCharsets.UTF_8);
        exitCode = process.waitFor();
        for (String line : printed.split("\n")) {
            if (line.startsWith(MARK)) {
                told.add(line.substring(MARK.length()));
            }
        }
    }

    static Commands of(Path folder, String script) throws IOException, InterruptedException {
        return new Commands(folder, script, 0);
    }

    static Commands ofCi(Path folder, int failing) throws IOException, InterruptedException {
        return new Commands(folder, ". ./.ci/run", failing);
    }

    /** The folder of classes is anyone's choice, so it is told by the same word. */
    static String anyFolder(String command) {
        return command.replaceAll(" -(d|cp) \\S+", " -$1 FOLDER");
    }
}
