import java.io.IOException;
import java.io.UncheckedIOException;
import java.nio.file.Files;
import java.nio.file.Path;
import java.nio.file.Paths;
import java.util.ArrayList;
import java.util.Arrays;
import java.util.LinkedHashMap;
import java.util.List;
import java.util.Map;
import java.util.regex.Pattern;

/**
 * The document's sentences. A test names the one that it is for, by its section and words; the
 * words must stand there, and in the end each clause of each sentence must have been named.
 */
final class Document {
    static final String TERMS = "Terms";
    static final String WHAT_IT_IS = "What it is";
    private static final Path FILE = Paths.get("../shared/DOC.md");
    /** Headings, and what is said of the interface's comments, promise nothing by themselves. */
    private static final Pattern HEADING_OR_COMMENT = Pattern.compile("^(#|Ahead of the calls |A prime broker, )");

    /** Where a sentence is cut into its clauses: those of an exception, those of what, and those of the terms. */
    private static final String CLAUSES = "(?<=^Throws .{0,400}), (or )?|(?<=^`what`: .{0,400}), (?=[0-9] (?!or 0))"
        + "|; |\\.$";

    /** The clauses of each section's sentences, and how many tests have named each. */
    private static final Map<String, Map<String, Integer>> CLAUSES_NAMED = new LinkedHashMap<>();
    private static final Map<String, List<String>> SENTENCES = read();

    private Document() {
    }

    /** Counts a test for the clauses in which these words stand, or that stand in these words. */
    static void name(String section, String words) {
        boolean stands = false;
        for (String sentence : SENTENCES.getOrDefault(section, List.of())) {
            stands |= sentence.contains(words);
        }
        Script.expect(section + " says: " + words, String.valueOf(stands), "true");
        for (Map.Entry<String, Integer> clause : CLAUSES_NAMED.getOrDefault(section, Map.of()).entrySet()) {
            if (clause.getKey().contains(words) || words.contains(clause.getKey())) {
                clause.setValue(clause.getValue() + 1);
            }
        }
    }

    static void expectAllNamed() {
        int all = 0;
        for (Map.Entry<String, Map<String, Integer>> section : CLAUSES_NAMED.entrySet()) {
            for (Map.Entry<String, Integer> clause : section.getValue().entrySet()) {
                Script.expect(section.getKey() + " has a test for: " + clause.getKey(),
                    String.valueOf(clause.getValue() > 0), "true");
                all++;
            }
        }
        System.out.println(all + " clauses of " + SENTENCES.size() + " sections have tests");
    }

    private static Map<String, List<String>> read() {
        Map<String, List<String>> sections = new LinkedHashMap<>();
        String section = "";
        for (String line : lines()) {
            if (line.startsWith("## ")) {
                section = line.substring(3).replaceAll("^(Promise \\d+):.*", "$1");
            } else if (section.equals(TERMS) || section.equals(WHAT_IT_IS) || section.startsWith("Promise ")) {
                for (String sentence : sentences(section, line)) {
                    sections.computeIfAbsent(section, none -> new ArrayList<>()).add(sentence);
                    for (String clause : sentence.split(CLAUSES)) {
                        CLAUSES_NAMED.computeIfAbsent(section, none -> new LinkedHashMap<>()).put(clause, 0);
                    }
                }
            }
        }
        return sections;
    }

    private static List<String> sentences(String section, String line) {
        List<String> found = new ArrayList<>();
        if (line.isEmpty()) {
            return found;
        }
        if (section.startsWith("Promise ")) {
            found.add(line.replaceFirst("^- |^`[^`]*`: ", ""));
        } else if (line.endsWith(".") && !HEADING_OR_COMMENT.matcher(line).find()) {
            found.addAll(Arrays.asList(line.split("(?<=\\.) ")));
        }
        return found;
    }

    private static List<String> lines() {
        try {
            return Files.readAllLines(FILE);
        } catch (IOException gone) {
            throw new UncheckedIOException(gone);
        }
    }
}
