import java.io.File;
import java.io.IOException;
import java.lang.reflect.Method;
import java.lang.reflect.Modifier;
import java.nio.charset.StandardCharsets;
import java.nio.file.Files;
import java.nio.file.Path;
import java.util.regex.Matcher;
import java.util.regex.Pattern;

/** README.md is held to its words: its example, what that answers, and the way to run the tests. */
public final class ReadmeTest {
    private static final Checks CHECKS = new Checks();
    private static final Path MAIN = Path.of("src/main/java/HandSpans.java");

    public static void main(String[] args) throws IOException, InterruptedException {
        String page = Files.readString(Path.of("README.md"));
        String use = between(page, "\n## Use\n", "\n## Tests\n");
        String tests = page.substring(page.indexOf("\n## Tests\n"));
        example(use);
        methods(use);
        tests(tests);
        CHECKS.close();
    }

    private static void example(String use) throws IOException, InterruptedException {
        Path folder = Files.createTempDirectory("readme");
        Path copy = folder.resolve(MAIN);
        Files.createDirectories(copy.getParent());
        Files.copy(MAIN, copy);
        Files.writeString(folder.resolve("Example.java"), block(use, "java"));
        CHECKS.due("what the example prints", block(use, "text"), printed(folder, block(use, "sh")));
        delete(folder.toFile());
    }

    private static String between(String page, String first, String behind) {
        int start = page.indexOf(first);
        int end = page.indexOf(behind);
        CHECKS.that("README.md has no " + first.strip(), start >= 0);
        CHECKS.that("README.md has no " + behind.strip(), end > start);
        return start >= 0 && end > start ? page.substring(start, end) : "";
    }

    /** The one block of this kind. */
    private static String block(String page, String kind) {
        Matcher found = Pattern.compile("(?s)\n```" + kind + "\n(.*?\n)```\n").matcher(page);
        boolean one = found.find();
        CHECKS.that("there is no block of " + kind, one);
        String text = one ? found.group(1) : "";
        CHECKS.that("there is a second block of " + kind, !found.find());
        return text;
    }

    /** What goes wrong is part of it, too: then it is not what is due. */
    private static String printed(Path folder, String lines) throws IOException, InterruptedException {
        ProcessBuilder made = new ProcessBuilder("sh", "-c", lines).directory(folder.toFile());
        Process run = made.redirectErrorStream(true).start();
        String text = new String(run.getInputStream().readAllBytes(), StandardCharsets.UTF_8);
        CHECKS.due("the exit code of " + lines.strip(), 0, run.waitFor());
        return text;
    }

    private static void delete(File file) {
        File[] inside = file.listFiles();
        if (inside != null) {
            for (File one : inside) {
                delete(one);
            }
        }
        CHECKS.that(file + " stays", file.delete());
    }

    private static void methods(String use) {
        for (Method m : HandSpans.class.getDeclaredMethods()) {
            if (Modifier.isPublic(m.getModifiers())) {
                String call = "`" + m.getName() + "\\((\\w+(, \\w+)*)?\\)`";
                Matcher found = Pattern.compile(call).matcher(use);
                boolean named = found.find();
                CHECKS.that("README.md does not name " + m, named);
                String arguments = named && found.group(1) != null ? found.group(1) : "";
                int count = arguments.isEmpty() ? 0 : arguments.split(", ").length;
                CHECKS.due("the number of arguments of " + m.getName(), m.getParameterCount(), count);
            }
        }
    }

    private static void tests(String tests) {
        String line = block(tests, "sh").strip();
        CHECKS.that(line + " cannot be run", !line.isEmpty() && Files.isExecutable(Path.of(line)));
        String[] files = new File("src/test/java").list();
        for (String file : files == null ? new String[0] : files) {
            if (file.endsWith("Test.java")) {
                String name = file.replace(".java", "");
                CHECKS.that("README.md does not name " + name, tests.contains("`" + name + "`"));
            }
        }
        Matcher named = Pattern.compile("`(\\w+Test)`").matcher(tests);
        while (named.find()) {
            Path file = Path.of("src/test/java", named.group(1) + ".java");
            CHECKS.that("there is no " + file, Files.exists(file));
        }
    }
}
