import java.util.ArrayList;
import java.util.Arrays;
import java.util.List;

/**
 * The arguments of one method, each at both its ends and just outside, and of the farthest numbers:
 * which exception comes, which comes first where two arguments are out of range, or one argument
 * and what the method refuses besides; and that a refused call changes nothing.
 */
final class Ranges {
    private static final class Range {
        final String words;
        final String due;
        final int least;
        final int most;

        Range(String words, String due, int least, int most) {
            this.words = words;
            this.due = due;
            this.least = least;
            this.most = most;
        }

        int[] outside() {
            return new int[] {least - 1, most + 1, Integer.MIN_VALUE, Integer.MAX_VALUE};
        }
    }

    private final String section;
    private final String method;
    /** Arguments that are in range, the first of them those of the ranges. */
    private final String[] within;
    private final List<Range> ranges = new ArrayList<>();

    private Ranges(String section, String method, String[] within) {
        this.section = section;
        this.method = method;
        this.within = within;
    }

    static Ranges of(String section, String method, String... within) {
        return new Ranges(section, method, within);
    }

    Ranges index(String words, int least, int most) {
        ranges.add(new Range(words, "index", least, most));
        return this;
    }

    Ranges argument(String words, int least, int most) {
        ranges.add(new Range(words, "argument", least, most));
        return this;
    }

    /** Behind these calls each end of each range is allowed, and what is just outside is refused. */
    Ranges behind(String... before) {
        List<String> calls = allowed(before);
        for (int i = 0; i < ranges.size(); i++) {
            Range range = ranges.get(i);
            Document.name(section, range.words);
            Document.name(section, range.due.equals("index") ? "Throws `IndexOutOfBoundsException` if there is no such "
                : "Throws `IllegalArgumentException` if ");
            expectAllowed(calls, call(i, range.least));
            expectAllowed(calls, call(i, range.most));
            for (int outside : range.outside()) {
                Script.expectThrown(section + ", " + range.words, calls, call(i, outside), range.due);
            }
        }
        expectFirstOfTwo(calls);
        return this;
    }

    /** Behind these calls it is refused as things are; an argument out of range comes first. */
    Ranges refusedBehind(String... before) {
        Document.name(Document.TERMS, "the one that is listed first is thrown");
        List<String> calls = allowed(before);
        Script.expectThrown(section + ", refused as things are", calls, call(within), "state");
        for (int i = 0; i < ranges.size(); i++) {
            for (int outside : ranges.get(i).outside()) {
                Script.expectThrown(section + ", refused as things are, too", calls, call(i, outside), ranges.get(i).due);
            }
        }
        return this;
    }

    private void expectFirstOfTwo(List<String> calls) {
        Document.name(Document.TERMS, "the one that is listed first is thrown");
        for (int i = 0; i < ranges.size(); i++) {
            for (int j = i + 1; j < ranges.size(); j++) {
                boolean index = ranges.get(i).due.equals("index") || ranges.get(j).due.equals("index");
                for (int one : ranges.get(i).outside()) {
                    String[] values = within.clone();
                    values[i] = String.valueOf(one);
                    values[j] = String.valueOf(ranges.get(j).outside()[one < 0 ? 1 : 0]);
                    Script.expectThrown(section + ", two out of range", calls, call(values), index ? "index" : "argument");
                }
            }
        }
    }

    private List<String> allowed(String[] before) {
        List<String> calls = Arrays.asList(before);
        for (int i = 0; i < before.length; i++) {
            expectAllowed(calls.subList(0, i), before[i]);
        }
        return calls;
    }

    private void expectAllowed(List<String> calls, String call) {
        String answer = Script.answer(Script.made(calls), call);
        Script.expect(section + ": " + call + " is allowed", String.valueOf(answer.matches("-?\\d+|true|false")), "true");
    }

    private String call(int place, int value) {
        String[] values = within.clone();
        values[place] = String.valueOf(value);
        return call(values);
    }

    private String call(String[] values) {
        return method + "(" + String.join(", ", values) + ")";
    }
}
