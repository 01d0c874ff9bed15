import java.util.ArrayList;
import java.util.List;
import java.util.Map;
import java.util.regex.Matcher;
import java.util.regex.Pattern;

/** A text, read a second way: as a tree of conditions over named facts. Wrong texts end in Wrong. */
final class ModelText {
    /** A condition over named facts. */
    interface Condition {
        boolean holds(Map<String, Integer> facts);
    }

    /** A sum over named facts. */
    interface Sum {
        int of(Map<String, Integer> facts);
    }

    /** One line. */
    static final class Line {
        String word;
        String whom;
        int number;
        String fact;
        Condition condition = facts -> true;
    }

    /** The first wrong byte. */
    static final class Wrong extends Exception {
        private static final long serialVersionUID = 1;
        final int at;

        Wrong(int at) {
            this.at = at;
        }
    }

    private static final String[] FACTS = {"held age children year size", "size place year weeks held",
        "waited age children year", "size place year"};
    private static final Pattern THING = Pattern.compile(" *([a-z]+|[0-9]+|[^ ])");

    final List<Line> lines = new ArrayList<>();
    private final List<String> things = new ArrayList<>();
    private final List<Integer> begins = new ArrayList<>();
    private final int sort;
    private int at;

    ModelText(int sort, String text) throws Wrong {
        this.sort = sort;
        Matcher matcher = Pattern.compile(THING.pattern(), Pattern.DOTALL).matcher(text);
        int from = 0;
        while (from < text.length() && matcher.find(from)) {
            things.add(matcher.group(1));
            begins.add(matcher.start(1));
            from = matcher.end();
        }
        things.add("");
        begins.add(text.length());
        if (peek().isEmpty()) {
            return;
        }
        do {
            if (lines.size() == 10) {
                throw wrong();
            }
            lines.add(line());
        } while (accept(";"));
        if (!peek().isEmpty()) {
            throw wrong();
        }
    }

    private String peek() {
        return things.get(at);
    }

    private Wrong wrong() {
        return new Wrong(begins.get(at));
    }

    private boolean accept(String thing) {
        boolean is = peek().equals(thing);
        if (is) {
            at++;
        }
        return is;
    }

    private String oneOf(String words) throws Wrong {
        String thing = peek();
        if (!thing.isEmpty() && !thing.equals(" ") && (" " + words + " ").contains(" " + thing + " ")) {
            at++;
            return thing;
        }
        throw wrong();
    }

    private int number(int most) throws Wrong {
        if (!peek().matches("[0-9]{1,4}") || Integer.parseInt(peek()) > most) {
            throw wrong();
        }
        return Integer.parseInt(things.get(at++));
    }

    private Line line() throws Wrong {
        Line line = new Line();
        if (sort == 0) {
            line.word = oneOf("to");
            line.whom = oneOf("spouse child parent brother");
        } else if (sort == 3) {
            line.word = oneOf("allow");
            line.number = number(7);
        } else {
            line.word = oneOf("add less");
            line.number = number(9999);
            if (accept("*")) {
                line.fact = oneOf(FACTS[sort]);
            }
        }
        if (accept("if")) {
            line.condition = either(0);
        }
        return line;
    }

    private Condition either(int deep) throws Wrong {
        List<Condition> parts = new ArrayList<>();
        do {
            parts.add(both(deep));
        } while (accept("or"));
        return facts -> parts.stream().anyMatch(part -> part.holds(facts));
    }

    private Condition both(int deep) throws Wrong {
        List<Condition> parts = new ArrayList<>();
        do {
            parts.add(atom(deep));
        } while (accept("and"));
        return facts -> parts.stream().allMatch(part -> part.holds(facts));
    }

    private Condition atom(int deep) throws Wrong {
        if ((peek().equals("not") || peek().equals("(")) && deep == 6) {
            throw wrong();
        }
        if (accept("not")) {
            Condition inner = atom(deep + 1);
            return facts -> !inner.holds(facts);
        }
        if (accept("(")) {
            Condition inner = either(deep + 1);
            oneOf(")");
            return inner;
        }
        if (sort != 3 && accept("local")) {
            return facts -> facts.get("local") != 0;
        }
        Sum left = sum();
        String sign = oneOf("< >");
        Sum right = sum();
        return sign.equals("<") ? facts -> left.of(facts) < right.of(facts)
            : facts -> left.of(facts) > right.of(facts);
    }

    private Sum sum() throws Wrong {
        Sum all = part();
        while (accept("+")) {
            Sum one = all;
            Sum other = part();
            all = facts -> one.of(facts) + other.of(facts);
        }
        return all;
    }

    private Sum part() throws Wrong {
        if (peek().matches("[0-9]+")) {
            int number = number(9999);
            return facts -> number;
        }
        String fact = oneOf(FACTS[sort]);
        return facts -> facts.get(fact);
    }

    int total(Map<String, Integer> facts) {
        int sum = 0;
        for (Line line : lines) {
            if (line.condition.holds(facts)) {
                int amount = line.number * (line.fact == null ? 1 : facts.get(line.fact));
                sum += line.word.equals("add") ? amount : -amount;
            }
        }
        return sum;
    }
}
