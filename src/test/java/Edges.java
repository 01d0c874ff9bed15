import java.io.IOException;
import java.nio.charset.StandardCharsets;
import java.nio.file.Files;
import java.nio.file.Path;
import java.util.ArrayList;
import java.util.Arrays;
import java.util.List;
import java.util.Set;
import java.util.TreeSet;
import java.util.regex.Matcher;
import java.util.regex.Pattern;

/**
 * Tests of the document's single sentences: each names its promise and the words that it holds to, which must
 * stand in the document: in that promise, or ahead of all promises.
 */
final class Edges {
    // Sentences that hold for many promises.
    static final String FIRST_TOLD = "Of several exceptions the one told first is thrown;";
    static final String NO_SUCH =
        "IndexOutOfBoundsException: there is no such PERSON, HUT, YEAR, STORM, PLANK, DAY, PLACE;";
    static final String BITS = "bits of sets of none count for nothing.";
    static final String YEARS = "YEARS 1900 to 2099;";

    private static final int PROMISES = 44;

    /** What stands ahead of all promises, then each promise; empty if the document is not at hand. */
    private final String[] sections;
    private final Set<String> thrown = new TreeSet<>();
    /** What tests of each promise quote; of no promise, what any of them quotes. */
    private final List<Set<String>> quoted = new ArrayList<>();

    Edges() throws IOException {
        for (int promise = 0; promise <= PROMISES; promise++) {
            quoted.add(new TreeSet<>());
        }
        Path path = Path.of(System.getProperty("hutrow.document", "../shared/DOC.md"));
        if (!Files.isReadable(path)) {
            System.out.println("no document at " + path + ": its words are not looked up");
            sections = new String[0];
            return;
        }
        String whole = new String(Files.readAllBytes(path), StandardCharsets.UTF_8);
        String words = whole.replaceAll("(?s)```java.*?```", " ").replaceAll("```(?:text)?", " ");
        sections = words.replaceAll("\\s+", " ").split("## (?=Promise \\d+:|Not promised)");
        Check.due("the document's parts", PROMISES + 2, () -> sections.length);
    }

    /** On a new object all rows answer as they say. */
    void holds(int promise, String sentence, String... rows) {
        String name = "Promise " + promise + ", \"" + sentence + "\"";
        Check.isTrue(name + " stands in the document",
            sections.length == 0 || sections[0].contains(sentence) || sections[promise].contains(sentence));
        quoted.get(0).add(sentence);
        quoted.get(promise).add(sentence);
        for (String row : rows) {
            if (Run.thrownBy(row) != null) {
                Call call = Run.callsOf(row).get(Run.callsOf(row).size() - 1);
                thrown.add(promise + " " + call.name + " " + Run.thrownBy(row));
            }
        }
        Run.make(name, rows);
    }

    /** Every promise has a test, and every exception that a promise names has one that asks for it. */
    void allAreThere() {
        for (int promise = 1; promise <= PROMISES; promise++) {
            Check.isTrue("Promise " + promise + " has a test", !quoted.get(promise).isEmpty());
            if (sections.length > 0) {
                exceptionsOf(promise);
            }
        }
        for (int part = 0; part < Math.min(sections.length, PROMISES + 1); part++) {
            int number = part;
            Check.due("words of part " + part + " that no test quotes", "[]", () -> wordsWithoutTest(number));
        }
    }

    /** Headings, and what the class is for, need no test. */
    private List<String> wordsWithoutTest(int part) {
        String text = sections[part].replaceAll("^Promise \\d+: [\\w ]+ `[^`]*`:", "").replaceAll("==== \\d\\.", "")
            .replaceAll("^.*(?=An object is used for)|#+ (The public face|Terms)|what later calls answer is free\\.", "");
        char[] left = text.toCharArray();
        for (String sentence : quoted.get(part)) {
            for (int at = text.indexOf(sentence); at >= 0; at = text.indexOf(sentence, at + 1)) {
                Arrays.fill(left, at, at + sentence.length(), '\n');
            }
        }
        List<String> words = new ArrayList<>();
        for (String row : new String(left).split("\n+")) {
            if (row.matches(".*[A-Za-z0-9].*")) {
                words.add(row.trim());
            }
        }
        return words;
    }

    private void exceptionsOf(int promise) {
        Check.isTrue("Promise " + promise + " has a section", sections[promise].startsWith("Promise " + promise + ":"));
        Matcher head = Pattern.compile("`[^`]*?(\\w+)\\([^)]*\\) throws ([^`]*)`").matcher(sections[promise]);
        if (head.find()) {
            for (String name : head.group(2).split(", ")) {
                String one = promise + " " + head.group(1) + " throws " + name.replaceAll("Exception$", "");
                Check.isTrue("Promise " + one + " has a test", thrown.contains(one));
            }
        }
    }
}
