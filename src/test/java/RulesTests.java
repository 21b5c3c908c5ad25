import java.io.IOException;
import java.nio.file.Files;
import java.nio.file.Path;
import java.nio.file.Paths;
import java.util.List;

/** Those of the rules of LANGUAGE.md that can be seen in the text of the program. */
public final class RulesTests {
    private static final Path PROGRAM = Paths.get("src/main/java/Primeborrow.java");
    private static final int MOST_LINES = 60;
    private static final String[] NOT_THERE = {"import ", "package ", "->", "::", "catch", "finally", "synchronized",
        "assert ", "Exact(", "Object ", "hashCode", "toString", "System.", "Thread", "Random", "getMessage",
        "while (true)", "for (;;)"};

    private RulesTests() {
    }

    public static void main(String[] args) throws IOException {
        List<String> lines = Files.readAllLines(PROGRAM);
        int start = 0;
        for (int i = 0; i < lines.size(); i++) {
            String line = lines.get(i);
            String code = line.trim().startsWith("*") || line.trim().startsWith("/") ? "" : line;
            for (String word : NOT_THERE) {
                Script.expect("line " + (i + 1) + " has " + word, String.valueOf(code.contains(word)), "false");
            }
            Script.expect("line " + (i + 1) + " has a sign beyond 127",
                String.valueOf(line.chars().anyMatch(sign -> sign > 127)), "false");
            if (code.matches(" {4}( {4})?[a-z].*\\(.*") && !code.contains(";")) {
                start = i;
            }
            if (code.matches(" {4}( {4})?}")) {
                Script.expect("lines of the method that ends in line " + (i + 1),
                    String.valueOf(i - start > MOST_LINES), "false");
            }
        }
        Script.end();
    }
}
