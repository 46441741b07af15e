import java.io.File;
import java.io.IOException;
import java.lang.reflect.Method;
import java.lang.reflect.Modifier;
import java.net.URL;
import java.net.URLClassLoader;
import java.nio.file.Files;
import java.nio.file.Path;
import java.util.ArrayList;
import java.util.List;
import java.util.regex.Matcher;
import java.util.regex.Pattern;
import javax.tools.ToolProvider;

/** README.md: the use that it shows compiles and answers as it says; run from the project's folder. */
public final class ReadmeTest {
    private static final String NAME = "ReadmeUse";
    private static final Pattern LINE = Pattern.compile(
            "(?:int (\\w+) = )?(.+?);\\s*// (?:(-?\\d+)(?::.*)?|throws (\\w+))");

    private final List<String> lines = new ArrayList<>();
    private final List<String> due = new ArrayList<>();
    private final StringBuilder body = new StringBuilder();

    private ReadmeTest() {
    }

    public static void main(String[] args) throws Exception {
        String readme = Files.readString(Path.of("README.md"));
        ReadmeTest test = new ReadmeTest();
        String use = codeOf(readme);
        use.lines().forEach(test::add);
        Check.same("README.md", test.due, test.answers());
        everyCallIsShown(use);
        everyTestIsNamed(readme);
        Check.end();
    }

    private static String codeOf(String readme) {
        Matcher block = Pattern.compile("(?s)```java\n(.*?)```").matcher(readme);
        Check.holds("README.md shows a use", block.find());
        String code = block.group(1);
        Check.holds("README.md shows one use alone", !block.find());
        return code;
    }

    /** A line that tells no answer stands as it is; but each line that calls the counter is to tell one. */
    private void add(String line) {
        Matcher told = LINE.matcher(line);
        if (!told.matches()) {
            Check.holds("no answer is told of: " + line, !line.contains("counter."));
            body.append(line).append('\n');
            return;
        }
        lines.add(line);
        due.add(line + " -> " + (told.group(3) != null ? told.group(3) : told.group(4)));
        if (told.group(1) != null) {
            body.append("int ").append(told.group(1)).append(" = ").append(told.group(2)).append(";\n");
            body.append("answers.add(\"\" + ").append(told.group(1)).append(");\n");
        } else {
            body.append("try { answers.add(\"\" + ").append(told.group(2)).append("); }\n");
            body.append("catch (RuntimeException e) { answers.add(e.getClass().getSimpleName()); }\n");
        }
    }

    /** What the lines answer; only what is compiled here runs, and it sees no more than a user does. */
    private List<String> answers() throws Exception {
        List<String> answers = new ArrayList<>();
        Path folder = Files.createTempDirectory("readme");
        try {
            compile(folder);
            try (URLClassLoader loader = new URLClassLoader(new URL[] {folder.toUri().toURL()})) {
                loader.loadClass(NAME).getMethod("run", List.class).invoke(null, answers);
            }
        } finally {
            delete(folder);
        }
        List<String> told = new ArrayList<>();
        for (int line = 0; line < answers.size(); line++) {
            told.add(lines.get(line) + " -> " + answers.get(line));
        }
        return told;
    }

    private void compile(Path folder) throws IOException {
        Path file = folder.resolve(NAME + ".java");
        Files.writeString(file, "public final class " + NAME + " {\n"
                + "public static void run(java.util.List<String> answers) {\n" + body + "}\n}\n");
        int exit = ToolProvider.getSystemJavaCompiler().run(null, null, null, "--release", "17",
                "-cp", System.getProperty("java.class.path"), "-d", folder.toString(), file.toString());
        Check.holds("the use of README.md does not compile", exit == 0);
    }

    private static void delete(Path folder) throws IOException {
        for (File file : folder.toFile().listFiles()) {
            Files.delete(file.toPath());
        }
        Files.delete(folder);
    }

    private static void everyCallIsShown(String use) {
        for (Method method : RightsCounter.class.getDeclaredMethods()) {
            if (Modifier.isPublic(method.getModifiers())) {
                Check.holds("README.md does not show " + method.getName(),
                        use.contains("counter." + method.getName() + "("));
            }
        }
    }

    private static void everyTestIsNamed(String readme) {
        for (File file : Path.of("src/test/java").toFile().listFiles()) {
            String name = file.getName().replace(".java", "");
            if (name.endsWith("Test")) {
                Check.holds("README.md does not name " + name, readme.contains("`" + name + "`"));
            }
        }
        Check.holds("README.md does not tell how to run the tests", readme.contains(".ci/run"));
    }
}
