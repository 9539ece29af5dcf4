import java.io.IOException;
import java.nio.file.Files;
import java.nio.file.Path;
import java.util.ArrayList;
import java.util.List;
import java.util.Set;
import java.util.TreeSet;
import java.util.regex.Matcher;
import java.util.regex.Pattern;
import java.util.stream.Stream;

/** What README.md says of using the class and of its tests: its lines are compiled, run and held against it. */
public final class ReadmeTest {
    private static final Pattern BLOCK = Pattern.compile("```java\n(.*?)```", Pattern.DOTALL);
    private static final Pattern ANSWER =
            Pattern.compile("(?:int|long) \\w+ = ([^/]*); *// (-?\\d+|\\w+Exception)\\b.*");

    public static void main(String[] args) throws Exception {
        String page = Files.readString(Path.of("README.md"));
        example(page);
        everyMethod(page);
        everyTest(page);
        Check.due(".ci/run can be run", Files.isExecutable(Path.of(".ci", "run")) ? 1 : 0, 1);
        Check.end();
    }

    private static void example(String page) throws Exception {
        Path folder = Files.createTempDirectory("readme");
        Path source = folder.resolve("Example.java");
        Path compiled = folder.resolve("Example.class");
        Files.writeString(source, program(page));
        String classes = System.getProperty("java.class.path");
        if (done("javac", "-cp", classes, "-d", folder.toString(), source.toString())) {
            done("java", "-cp", folder + System.getProperty("path.separator") + classes, "Example");
        }
        Files.deleteIfExists(compiled);
        Files.delete(source);
        Files.delete(folder);
    }

    /** Whether a command ends well; what it says is told if not. */
    private static boolean done(String... command) throws Exception {
        Process run = new ProcessBuilder(command).redirectErrorStream(true).start();
        String told = new String(run.getInputStream().readAllBytes());
        int code = run.waitFor();
        if (code != 0) {
            Check.say("the page's lines, by " + command[0] + ", exit code " + code + ": " + told);
            return false;
        }
        return true;
    }

    /** The page's lines as one program, each answer that it tells being looked at. */
    private static String program(String page) {
        StringBuilder methods = new StringBuilder();
        StringBuilder calls = new StringBuilder();
        Matcher block = BLOCK.matcher(page);
        int answers = 0;
        while (block.find()) {
            if (block.group(1).startsWith("static ")) {
                methods.append(block.group(1));
                continue;
            }
            for (String line : block.group(1).split("\n")) {
                Matcher answer = ANSWER.matcher(line);
                boolean tells = answer.matches();
                answers += tells ? 1 : 0;
                calls.append(tells ? looked(line, answer.group(1), answer.group(2)) : line).append('\n');
            }
        }
        Check.due("the page tells answers", answers > 30 ? 1 : 0, 1);
        return "public class Example {\nstatic int wrong = 0;\n" + methods
                + "public static void main(String[] args) {\n" + calls + "System.exit(wrong == 0 ? 0 : 1);\n}\n"
                + "static void due(String call, Object got, Object want) {\n"
                + "if (!got.toString().equals(want)) {\nwrong++;\n"
                + "System.out.println(call + \" answered \" + got + \", the page says \" + want);\n}\n}\n}\n";
    }

    private static String looked(String line, String call, String answer) {
        String told = "\"" + call.replace("\"", "'") + "\"";
        String want = "\"" + answer + "\"";
        if (!answer.endsWith("Exception")) {
            String name = line.split(" ")[1];
            return line + "\ndue(" + told + ", " + name + ", " + want + ");";
        }
        return "try { due(" + told + ", " + call + ", " + want + "); } "
                + "catch (RuntimeException e) { due(" + told + ", e.getClass().getSimpleName(), " + want + "); }";
    }

    private static void everyMethod(String page) {
        for (java.lang.reflect.Method method : ButterLeaves.class.getDeclaredMethods()) {
            boolean open = java.lang.reflect.Modifier.isPublic(method.getModifiers());
            if (open && !page.contains("x." + method.getName() + "(")) {
                Check.say("the page does not show " + method.getName());
            }
        }
    }

    private static void everyTest(String page) throws IOException {
        Set<String> named = new TreeSet<>();
        Matcher row = Pattern.compile("(?m)^\\| (\\w+Test) \\|").matcher(page);
        while (row.find()) {
            named.add(row.group(1));
        }
        Set<String> there = new TreeSet<>();
        List<String> helpers = new ArrayList<>();
        try (Stream<Path> files = Files.list(Path.of("src", "test", "java"))) {
            files.map(file -> file.getFileName().toString().replace(".java", ""))
                    .forEach(name -> (name.endsWith("Test") ? there : helpers).add(name));
        }
        if (!named.equals(there)) {
            Check.say("the page names " + named + ", there are " + there);
        }
        for (String helper : helpers) {
            if (!page.contains("`" + helper)) {
                Check.say("the page does not name " + helper);
            }
        }
    }
}
