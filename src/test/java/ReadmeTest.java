import java.lang.reflect.Method;
import java.lang.reflect.Modifier;
import java.nio.file.DirectoryStream;
import java.nio.file.Files;
import java.nio.file.Path;
import java.util.regex.Matcher;
import java.util.regex.Pattern;

/** README.md is there, its example answers as it says, and it names every call of the face and every test. */
public final class ReadmeTest {
    private static final Pattern CALL = Pattern.compile("x\\.(\\w+)\\(([-0-9, ]*)\\);\\s*// (-?\\d+)(?=:|$).*");
    private static final Pattern FED = Pattern.compile("for \\(char c : \"([^\"]+)\"\\.toCharArray\\(\\)\\) x\\.feed\\(c\\);");
    private static int wrong = 0;

    private static void must(boolean holds, String what) {
        if (holds) return;
        wrong++;
        System.out.println("not so: " + what);
    }

    private static long answer(LanternBridge x, String name, String numbers) throws ReflectiveOperationException {
        String[] parts = numbers.isBlank() ? new String[0] : numbers.split(",");
        Class<?>[] types = new Class<?>[parts.length];
        Object[] given = new Object[parts.length];
        for (int i = 0; i < parts.length; i++) {
            types[i] = int.class;
            given[i] = Integer.parseInt(parts[i].trim());
        }
        return ((Number) LanternBridge.class.getMethod(name, types).invoke(x, given)).longValue();
    }

    private static void example(String readme) throws ReflectiveOperationException {
        int from = readme.indexOf("```java\n");
        int to = from < 0 ? -1 : readme.indexOf("\n```", from + 8);
        must(to >= 0, "README.md has an example");
        if (to < 0) return;
        String[] lines = readme.substring(from + 8, to).split("\n");
        must(lines[0].equals("LanternBridge x = new LanternBridge();"), "the example makes an object first");
        LanternBridge x = new LanternBridge();
        int asked = 0;
        for (int i = 1; i < lines.length; i++) {
            Matcher fed = FED.matcher(lines[i]);
            Matcher call = CALL.matcher(lines[i]);
            if (fed.matches()) {
                for (char c : fed.group(1).toCharArray()) x.feed(c);
            } else if (call.matches()) {
                long got = answer(x, call.group(1), call.group(2));
                must(got == Long.parseLong(call.group(3)), lines[i] + " (answered " + got + ")");
                asked++;
            } else {
                must(false, "a line of the example that can be looked at: " + lines[i]);
            }
        }
        must(asked > 0, "the example says what is answered");
    }

    private static void names(String readme) {
        for (Method m : LanternBridge.class.getDeclaredMethods()) {
            if (!Modifier.isPublic(m.getModifiers())) continue;
            must(readme.contains("`" + m.getName() + "("), "README.md names " + m.getName());
        }
    }

    private static void tests(Path root, String readme) throws Exception {
        must(readme.contains(".ci/run"), "README.md says how the tests are run");
        must(Files.isExecutable(root.resolve(".ci/run")), ".ci/run can be run");
        try (DirectoryStream<Path> files = Files.newDirectoryStream(root.resolve("src/test/java"), "*.java")) {
            for (Path file : files) {
                String name = file.getFileName().toString().replace(".java", "");
                must(readme.contains("`" + name + "`"), "README.md names " + name);
            }
        }
    }

    public static void main(String[] args) throws Exception {
        Path root = Path.of(args.length > 0 ? args[0] : ".");
        Path page = root.resolve("README.md");
        must(Files.isRegularFile(page), "README.md is there");
        if (wrong == 0) {
            String readme = Files.readString(page);
            example(readme);
            names(readme);
            tests(root, readme);
        }
        System.out.println(wrong == 0 ? "README.md is there, and as it says" : wrong + " things are not so");
        if (wrong != 0) System.exit(1);
    }
}
