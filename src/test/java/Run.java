import java.util.ArrayList;
import java.util.List;
import java.util.regex.Matcher;
import java.util.regex.Pattern;

/**
 * A run of calls on a new object, a row each: "call = answer", "call throws IllegalArgument", or the call alone
 * if it must not throw; "12 times call" makes it so often, and the row tells the last answer.
 * A call that throws is looked at twice: what can be seen of the object must be the same as of a twin that it
 * never came to (but for the TAPE, which text() uses up, and fault() behind a text that was read).
 */
final class Run {
    private static final Pattern ROW = Pattern.compile(
        "(?:(\\d+) times )?(\\w+\\(.*\\))(?: = (\\S+)| (throws \\w+))?", Pattern.DOTALL);

    private final String name;
    private final HutRow x = new HutRow();
    private final List<Call> answered = new ArrayList<>();

    private Run(String name) {
        this.name = name;
    }

    static void make(String name, String... rows) {
        Run run = new Run(name);
        for (String row : rows) {
            run.row(row);
        }
    }

    /** The calls of a row: its call, once. */
    static List<Call> callsOf(String row) {
        return Call.told(matcher(row).group(2));
    }

    /** What a row says that is thrown; null if nothing. */
    static String thrownBy(String row) {
        return matcher(row).group(4);
    }

    private static Matcher matcher(String row) {
        Matcher matcher = ROW.matcher(row);
        if (!matcher.matches()) {
            throw new IllegalStateException("no row: " + row);
        }
        return matcher;
    }

    private void row(String row) {
        Matcher matcher = matcher(row);
        int times = matcher.group(1) == null ? 1 : Integer.parseInt(matcher.group(1));
        String got = "";
        boolean threw = false;
        for (int i = 0; i < times; i++) {
            for (Call call : callsOf(row)) {
                got = make(call);
                threw |= got.startsWith("throws");
            }
        }
        String want = matcher.group(3) != null ? matcher.group(3) : matcher.group(4);
        String answer = want == null && !threw ? "no throw" : got;
        Check.due(name + ": " + row, want == null ? "no throw" : want, () -> answer);
    }

    private String make(Call call) {
        String got = call.on(x);
        if (got.startsWith("throws")) {
            nothingChanged(call);
        }
        // A text that throws has used the TAPE up: twins that are made later must have it so, too.
        answered.add(got.startsWith("throws") && !call.name.equals("text") ? null : call);
        return got;
    }

    private void nothingChanged(Call refused) {
        boolean isText = refused.name.equals("text");
        boolean wasRead = isText && refused.toString().matches("text\\([0-3]\\)");
        HutRow one = twin();
        HutRow other = twin();
        refused.on(one);
        if (isText) {
            other.end(0);
        } else {
            other.count(3);
        }
        int calls = answered.size() + 1;
        String want = Seen.all(other, calls, !wasRead);
        Check.due(name + ": " + refused + " changes nothing", want, () -> Seen.all(one, calls, !wasRead));
    }

    private HutRow twin() {
        HutRow twin = new HutRow();
        for (Call call : answered) {
            if (call != null) {
                call.on(twin);
            }
        }
        return twin;
    }
}
