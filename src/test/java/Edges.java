import java.io.IOException;
import java.nio.charset.StandardCharsets;
import java.nio.file.Files;
import java.nio.file.Path;
import java.util.Set;
import java.util.TreeSet;
import java.util.regex.Matcher;
import java.util.regex.Pattern;

/**
 * Tests of the document's single sentences: each names its promise and the words that it holds to, which must
 * stand in the document: in that promise, or ahead of all promises.
 */
final class Edges {
    // Sentences that hold for many promises.
    static final String FIRST_TOLD = "Of several exceptions the one told first is thrown;";
    static final String NO_SUCH =
        "IndexOutOfBoundsException: there is no such PERSON, HUT, YEAR, STORM, PLANK, DAY, PLACE;";
    static final String BITS = "bits of sets of none count for nothing.";
    static final String YEARS = "YEARS 1900 to 2099;";

    private static final int PROMISES = 44;

    /** What stands ahead of all promises, then each promise; empty if the document is not at hand. */
    private final String[] sections;
    private final Set<String> thrown = new TreeSet<>();
    private final int[] tests = new int[PROMISES + 1];

    Edges() throws IOException {
        Path path = Path.of(System.getProperty("hutrow.document", "../shared/DOC.md"));
        if (!Files.isReadable(path)) {
            System.out.println("no document at " + path + ": its words are not looked up");
            sections = new String[0];
            return;
        }
        String whole = new String(Files.readAllBytes(path), StandardCharsets.UTF_8);
        sections = whole.replaceAll("\\s+", " ").split("## (?=Promise \\d+:|Not promised)");
        Check.due("the document's parts", PROMISES + 2, () -> sections.length);
    }

    /** On a new object all rows answer as they say. */
    void holds(int promise, String sentence, String... rows) {
        String name = "Promise " + promise + ", \"" + sentence + "\"";
        Check.isTrue(name + " stands in the document",
            sections.length == 0 || sections[0].contains(sentence) || sections[promise].contains(sentence));
        tests[promise]++;
        for (String row : rows) {
            if (Run.thrownBy(row) != null) {
                Call call = Run.callsOf(row).get(Run.callsOf(row).size() - 1);
                thrown.add(promise + " " + call.name + " " + Run.thrownBy(row));
            }
        }
        Run.make(name, rows);
    }

    /** Every promise has a test, and every exception that a promise names has one that asks for it. */
    void allAreThere() {
        for (int promise = 1; promise <= PROMISES; promise++) {
            Check.isTrue("Promise " + promise + " has a test", tests[promise] > 0);
            if (sections.length > 0) {
                exceptionsOf(promise);
            }
        }
    }

    private void exceptionsOf(int promise) {
        Check.isTrue("Promise " + promise + " has a section", sections[promise].startsWith("Promise " + promise + ":"));
        Matcher head = Pattern.compile("`[^`]*?(\\w+)\\([^)]*\\) throws ([^`]*)`").matcher(sections[promise]);
        if (head.find()) {
            for (String name : head.group(2).split(", ")) {
                String one = promise + " " + head.group(1) + " throws " + name.replaceAll("Exception$", "");
                Check.isTrue("Promise " + one + " has a test", thrown.contains(one));
            }
        }
    }
}
