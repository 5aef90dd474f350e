import java.io.File;
import java.io.IOException;
import java.lang.reflect.Method;
import java.lang.reflect.Modifier;
import java.nio.charset.StandardCharsets;
import java.nio.file.Files;
import java.nio.file.Path;
import java.util.ArrayList;
import java.util.List;
import java.util.regex.Matcher;
import java.util.regex.Pattern;

/**
 * What README.md says is so: its commands, run in a directory that has nothing but the sources and the
 * example, print what it says; it tells of every call and of every test.
 */
public final class ReadmeTest {
    private static final Path README = Path.of("README.md");
    private static final Path PROGRAM = Path.of("src/main/java/TapeVault.java");
    private static final Path TESTS = Path.of("src/test/java");

    public static void main(String[] args) throws IOException, InterruptedException {
        String readme = Files.readString(README);
        List<String> commands = fenced(readme, "sh");
        Check.same("commands in README.md", commands.size(), 3);
        if (commands.size() == 3) {
            exampleRuns(readme, commands.get(0));
            Check.same("how all tests are run", commands.get(1), ".ci/run\n");
            Check.same(".ci/run can be run", Files.isExecutable(Path.of(".ci/run")), true);
            oneTestRuns(commands.get(2));
        }
        everyCallIsTold(readme);
        everyTestIsTold(readme);
        Check.end();
    }

    private static List<String> fenced(String readme, String kind) {
        List<String> found = new ArrayList<>();
        Matcher matcher = Pattern.compile("(?ms)^```" + kind + "\\n(.*?)^```$").matcher(readme);
        while (matcher.find()) {
            found.add(matcher.group(1));
        }
        return found;
    }

    private static void exampleRuns(String readme, String commands) throws IOException, InterruptedException {
        List<String> examples = fenced(readme, "java");
        List<String> printed = fenced(readme, "text");
        Check.same("examples in README.md", examples.size(), 1);
        Check.same("what the example prints in README.md", printed.size(), 1);
        if (examples.size() == 1 && printed.size() == 1) {
            Path directory = withSources();
            Files.writeString(directory.resolve("Example.java"), examples.get(0));
            Check.same("the example", told(directory, commands), printed.get(0));
        }
    }

    private static void oneTestRuns(String commands) throws IOException, InterruptedException {
        Check.same("one test by itself", told(withSources(), commands), "");
    }

    private static Path withSources() throws IOException {
        Path directory = Files.createTempDirectory("readme");
        copy(PROGRAM, directory);
        for (File file : TESTS.toFile().listFiles()) {
            copy(TESTS.resolve(file.getName()), directory);
        }
        return directory;
    }

    private static void copy(Path file, Path directory) throws IOException {
        Path copied = directory.resolve(file);
        Files.createDirectories(copied.getParent());
        Files.copy(file, copied);
    }

    /** What the commands print as their answer, and their exit code if it is not 0. */
    private static String told(Path directory, String commands) throws IOException, InterruptedException {
        Process process = new ProcessBuilder("sh", "-ec", commands)
                .directory(directory.toFile()).redirectError(ProcessBuilder.Redirect.INHERIT).start();
        String printed = new String(process.getInputStream().readAllBytes(), StandardCharsets.UTF_8);
        int code = process.waitFor();
        removeAll(directory.toFile());
        return code == 0 ? printed : printed + "exit code " + code;
    }

    private static void removeAll(File file) {
        File[] inside = file.listFiles();
        for (int i = 0; inside != null && i < inside.length; i++) {
            removeAll(inside[i]);
        }
        file.delete();
    }

    private static void everyCallIsTold(String readme) {
        for (Method method : TapeVault.class.getDeclaredMethods()) {
            if (Modifier.isPublic(method.getModifiers())) {
                Check.same("README.md tells of " + method.getName(), rowsOf(method, readme), List.of(exceptions(method)));
            }
        }
    }

    /** What the rows of the calls say that this one throws. */
    private static List<String> rowsOf(Method method, String readme) {
        StringBuilder parameters = new StringBuilder();
        for (int i = 0; i < method.getParameterCount(); i++) {
            parameters.append(i == 0 ? "\\w+" : ", \\w+");
        }
        String call = "`" + method.getName() + "\\(" + parameters + "\\)`";
        List<String> rows = new ArrayList<>();
        Matcher matcher = Pattern.compile("(?m)^\\| " + call + " \\| .* \\| (.*) \\|$").matcher(readme);
        while (matcher.find()) {
            rows.add(matcher.group(1));
        }
        return rows;
    }

    private static String exceptions(Method method) {
        List<String> names = new ArrayList<>();
        for (Class<?> type : method.getExceptionTypes()) {
            names.add(type.getSimpleName().replace("Exception", ""));
        }
        return String.join(", ", names);
    }

    private static void everyTestIsTold(String readme) {
        for (File file : TESTS.toFile().listFiles()) {
            String name = file.getName().replace(".java", "");
            Check.same("README.md tells of " + name, readme.contains("`" + name + "`"), true);
        }
        Matcher matcher = Pattern.compile("`(\\w+Test)`").matcher(readme);
        while (matcher.find()) {
            String name = matcher.group(1);
            Check.same(name + " is there", Files.exists(TESTS.resolve(name + ".java")), true);
        }
    }
}
