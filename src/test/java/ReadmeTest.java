import java.io.File;
import java.io.IOException;
import java.lang.reflect.Method;
import java.lang.reflect.Modifier;
import java.nio.file.Files;
import java.nio.file.Path;
import java.util.regex.Matcher;
import java.util.regex.Pattern;

/** What README.md says: its examples answer so, and no call and no test is left out. */
public final class ReadmeTest {
    private static final Pattern TYPED = Pattern.compile("typeAll\\(x, \"(.*)\"\\);");
    private static final Pattern CALL = Pattern.compile("x\\.(\\w+)\\((-?\\d*)\\); +// (-?\\d+|throws \\w+)(: .*)?");

    private static TinyForge object = new TinyForge();
    private static int examples = 0;

    public static void main(String[] args) throws IOException {
        String readme = Files.readString(Path.of("README.md"));
        Matcher block = Pattern.compile("```java\n(.*?)```", Pattern.DOTALL).matcher(readme);
        while (block.find()) {
            if (!block.group(1).startsWith("static")) {
                example(block.group(1));
            }
        }
        Check.due("examples", examples, 3);
        callsAreNamed(readme);
        testsAreNamed(readme);
        Check.end();
    }

    private static void example(String lines) {
        for (String line : lines.split("\n")) {
            Matcher typed = TYPED.matcher(line);
            Matcher call = CALL.matcher(line);
            if (line.equals("TinyForge x = new TinyForge();")) {
                object = new TinyForge();
                examples++;
            } else if (typed.matches()) {
                Check.typeAll(object, typed.group(1).replace("\\n", "\n"));
            } else if (call.matches()) {
                int number = call.group(2).isEmpty() ? 0 : Integer.parseInt(call.group(2));
                Check.due(line, Check.of(() -> answer(call.group(1), number)), call.group(3));
            } else {
                Check.due(line, "no line that this test can read", "one that it can");
            }
        }
    }

    private static int answer(String call, int number) {
        switch (call) {
            case "clear":
                return object.clear();
            case "forge":
                return object.forge();
            case "why":
                return object.why();
            case "where":
                return object.where();
            case "give":
                return object.give(number);
            case "empty":
                return object.empty();
            case "run":
                return object.run();
            case "result":
                return object.result();
            case "output":
                return object.output(number);
            case "ticks":
                return object.ticks();
            default:
                throw new IllegalArgumentException(call);
        }
    }

    private static void callsAreNamed(String readme) {
        for (Method method : TinyForge.class.getDeclaredMethods()) {
            if (Modifier.isPublic(method.getModifiers())) {
                Check.due(method + " in the table", readme.contains("\n| `" + method.getName() + "("), true);
                for (Class<?> thrown : method.getExceptionTypes()) {
                    String row = "\n\\| `" + method.getName() + "\\(.*`" + thrown.getSimpleName() + "`: .*";
                    Check.due(thrown + " in the row of " + method, Pattern.compile(row).matcher(readme).find(), true);
                }
            }
        }
    }

    private static void testsAreNamed(String readme) {
        for (File file : new File("src/test/java").listFiles()) {
            String name = file.getName().replace(".java", "");
            if (name.endsWith("Test")) {
                Check.due(name + " in README.md", readme.contains("`" + name + "`"), true);
            }
        }
    }
}
