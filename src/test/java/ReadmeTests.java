import java.io.IOException;
import java.lang.reflect.Method;
import java.lang.reflect.Modifier;
import java.nio.file.Files;
import java.nio.file.Path;
import java.nio.file.Paths;
import java.util.List;
import java.util.Map;
import java.util.regex.Matcher;
import java.util.regex.Pattern;

/** What README.md says of the program's answers is what it answers, and each method is named there. */
public final class ReadmeTests {
    private static final Path FILE = Paths.get("README.md");
    private static final Pattern CALL = Pattern.compile("broker\\.(.*\\)); *// (-?\\w+): .*");
    private static final Map<String, String> THROWN = Map.of("IndexOutOfBoundsException", "index",
        "IllegalArgumentException", "argument", "IllegalStateException", "state");

    private ReadmeTests() {
    }

    public static void main(String[] args) throws IOException {
        List<String> lines = Files.readAllLines(FILE);
        Primeborrow object = new Primeborrow();
        int calls = 0;
        for (String line : lines) {
            Matcher call = CALL.matcher(line);
            if (call.matches()) {
                String due = THROWN.getOrDefault(call.group(2), call.group(2));
                Script.expect("README.md: " + call.group(1), Script.answer(object, call.group(1)), due);
                calls++;
            } else {
                Script.expect("a call without an answer: " + line, String.valueOf(line.startsWith("broker.")), "false");
            }
        }
        Script.expect("calls in README.md", String.valueOf(calls > 0), "true");
        expectNamed(String.join("\n", lines));
        Script.end();
    }

    private static void expectNamed(String text) {
        for (Method method : Primeborrow.class.getDeclaredMethods()) {
            if (Modifier.isPublic(method.getModifiers())) {
                String name = "`" + method.getName() + "`";
                Script.expect("README.md names " + name, String.valueOf(text.contains(name)), "true");
            }
        }
    }
}
