import java.io.File;
import java.io.IOException;
import java.lang.reflect.Method;
import java.lang.reflect.Modifier;
import java.nio.file.Files;
import java.nio.file.Path;
import java.util.ArrayList;
import java.util.List;
import java.util.regex.Matcher;
import java.util.regex.Pattern;

/** README.md's example does what it says there; each call of the face and each test is named. */
public final class ReadmeTest {
    private static final Due DUE = new Due();
    private static final Path README = Path.of("README.md");
    private static final Path TESTS = Path.of("src/test/java");
    private static final Pattern EXAMPLE = Pattern.compile("```java\n(.*?)```", Pattern.DOTALL);
    private static final Pattern PRINTED = Pattern.compile("System\\.out\\.println\\(.*\\);\\s*// (-?\\d+): ");
    private static final Pattern COMMAND = Pattern.compile("(?m)^    (\\S.*)$");

    public static void main(String[] args) throws IOException, InterruptedException {
        String readme = Files.readString(README);
        Matcher example = EXAMPLE.matcher(readme);
        DUE.holds("there is an example", example.find());
        prints(example.group(1));
        namesAll(readme);
        commands(readme.substring(readme.indexOf("## How to run its tests")));
        DUE.end();
    }

    private static void prints(String code) throws IOException, InterruptedException {
        List<String> due = new ArrayList<>();
        Matcher printed = PRINTED.matcher(code);
        while (printed.find()) {
            due.add(printed.group(1));
        }
        DUE.due("println with a number told", code.split("println", -1).length - 1, due.size());
        List<String> got = run(code);
        DUE.due("lines printed", got.size(), due.size());
        for (int i = 0; i < due.size() && i < got.size(); i++) {
            DUE.holds("line " + i + " of the example is " + got.get(i) + ", told is " + due.get(i), got.get(i).equals(due.get(i)));
        }
    }

    /** The example is a file of its own, as a reader would take it: java compiles and runs it against the class. */
    private static List<String> run(String code) throws IOException, InterruptedException {
        Path dir = Files.createTempDirectory("readme");
        Path file = dir.resolve("Example.java");
        Path out = dir.resolve("out");
        Files.writeString(file, code);
        String java = Path.of(System.getProperty("java.home"), "bin", "java").toString();
        String classes = System.getProperty("java.class.path");
        Process process = new ProcessBuilder(java, "-cp", classes, file.toString()).redirectErrorStream(true)
            .redirectOutput(out.toFile()).start();
        DUE.due("exit code of the example", process.waitFor(), 0);
        List<String> lines = Files.readAllLines(out);
        Files.delete(file);
        Files.delete(out);
        Files.delete(dir);
        return lines;
    }

    private static void namesAll(String readme) {
        for (Method method : ShaderReady.class.getDeclaredMethods()) {
            boolean open = Modifier.isPublic(method.getModifiers());
            DUE.holds(method.getName() + " is named", !open || readme.contains("`" + method.getName() + "`"));
        }
        File[] tests = TESTS.toFile().listFiles((dir, name) -> name.endsWith("Test.java") || name.endsWith("Edges.java"));
        DUE.holds("there are tests", tests != null && tests.length > 0);
        for (File test : tests) {
            String name = test.getName().replace(".java", "");
            DUE.holds(name + " is named", readme.contains("`" + name + "`"));
        }
    }

    /** A command may name only what a clean checkout has, or what an earlier command makes. */
    private static void commands(String part) {
        Matcher command = COMMAND.matcher(part);
        int commands = 0;
        boolean all = false;
        while (command.find()) {
            commands++;
            all |= command.group(1).equals(".ci/run");
            for (String word : command.group(1).split(" ")) {
                boolean path = word.contains("/") && !word.startsWith("/");
                DUE.holds(word + " is there", !path || Files.exists(Path.of(word.replace("/*.java", ""))));
            }
        }
        DUE.due("commands", commands, 3);
        DUE.holds(".ci/run is told and can be run", all && Files.isExecutable(Path.of(".ci/run")));
    }
}
