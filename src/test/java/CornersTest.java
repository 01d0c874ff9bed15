import java.lang.reflect.InvocationTargetException;
import java.lang.reflect.Method;
import java.util.ArrayList;
import java.util.Arrays;
import java.util.HashMap;
import java.util.List;
import java.util.Map;

/**
 * Every call of the face with every choice of corner numbers (just allowed, just not, the least and the most there
 * are), on an empty object, on one with something of everything and on a full one; and every short row of things
 * as a text. What is due is what the plain model answers: so of several exceptions the one told first.
 */
public final class CornersTest {
    private static final Map<String, Method> MODEL = new HashMap<>();
    private static final String[] FACE = {"end near", "text 0:3", "years 0:119", "person year 0:9999 flag",
        "hut 1:9 person 0:20", "event year 0:6 either either", "sale year hut person 0:9999", "holder hut year year",
        "since hut year year", "place hut year year", "about person year year 0:6", "rent hut year year",
        "leaves year 1:9", "income year 1:9", "waits person year", "order 1:10 year year", "freed 0:9",
        "howLong 1:10 flag", "toll year 0:100", "dodged 1:99", "lift set 1:4 0:2 hut", "wind 0:59 0:9",
        "crane set 0:59 1:9 flag", "line hut 0:99 0:99", "storm year set", "sea storm year flag", "level hut year flag",
        "flood 0:100 year flag", "lost hut 0:4 0:7", "plank 1:255 0:9 0:9", "rows", "whose plank",
        "photo hut year 0:7", "allowed hut year", "breaches hut", "painted hut", "thief 0:365", "thieves flag",
        "fault", "back", "image", "count 0:9"};
    private static final String[] HEADS = {"to", "add", "less", "allow"};
    private static final String[] THINGS = {"child", "5", "if", "not", "(", ")", "<", "+", "*", "and", "or", "local",
        "year", ";"};

    private final String[] world;
    private HutRow x;
    private Model y;
    private int asked;

    private CornersTest(String[] world) {
        this.world = world;
        anew();
    }

    public static void main(String[] args) {
        for (Method method : Model.class.getDeclaredMethods()) {
            MODEL.put(method.getName(), method);
        }
        String[][] worlds = {new String[0], World.rich(), full()};
        for (String[] world : worlds) {
            CornersTest test = new CornersTest(world);
            for (String call : FACE) {
                test.all(call.split(" "));
            }
        }
        for (int sort = 0; sort < 4; sort++) {
            String begin = HEADS[sort] + (sort == 0 ? " child" : " 5");
            texts(sort, "", 3, HEADS[sort]);
            texts(sort, begin + " if", 4, HEADS[sort]);
            texts(sort, begin + " if not ( 1 < 2 and not", 3, HEADS[sort]);
            texts(sort, begin + " if ( ( ( ( ( not", 3, HEADS[sort]);
            texts(sort, (begin + ";").repeat(9) + begin, 3, HEADS[sort]);
        }
        Check.close();
    }

    /** As many of everything as there may be. */
    private static String[] full() {
        List<String> rows = new ArrayList<>();
        for (int i = 0; i < 12; i++) {
            rows.add("person(" + (1920 + 5 * i) + ", " + 50 * i + ", " + (i % 2 == 0) + ")");
        }
        for (int i = 0; i < 10; i++) {
            rows.add("hut(" + (1 + i * 7 % 9) + ", " + (i % 3 == 0 ? -1 : i) + ", " + 2 * i + ")");
            rows.add("waits(" + i + ", " + (1960 + i * 3 % 7) + ")");
            rows.add("storm(" + (1960 + i) + ", " + ((1 << i) - 1) + ")");
        }
        for (int i = 0; i < 40; i++) {
            int a = i * 5 % 10;
            int b = (a + 1 + i % 7) % 10;
            rows.add(i % 7 == 4 ? "sale(" + (1940 + i) + ", " + a + ", " + b + ", " + 9 * i + ")"
                : "event(" + (1940 + i) + ", " + i % 7 + ", " + a + ", " + b + ")");
        }
        for (int i = 0; i < 20; i++) {
            rows.add("freed(" + (1 + i % 5) + ")");
            rows.add("photo(" + i % 10 + ", " + (1950 + i) + ", " + i % 8 + ")");
        }
        for (int i = 0; i < 8; i++) {
            rows.add("plank(" + (1 << i) + ", " + i + ", 9)");
            rows.add("lost(" + i + ", 1, " + i + ")");
        }
        for (int i = 0; i < 12; i++) {
            rows.add("thief(" + (5 + 9 * i) + ")");
        }
        rows.addAll(Arrays.asList("read(0, 'to spouse;to child;to brother')", "read(1, 'add 9*size;add 20 if local')",
            "read(2, 'add 1*waited;add 5*children')", "read(3, 'allow 1;allow 2 if year<1960')", "image()", "years(5)",
            "20 times feed(0x20202020, 0x20202020, 0x20202020, 0x20202020, 0x20202020)"));
        return rows.toArray(new String[0]);
    }

    private void anew() {
        x = new HutRow();
        y = new Model();
        asked = 0;
        for (String row : world) {
            int times = row.matches("\\d+ times .*") ? Integer.parseInt(row.substring(0, row.indexOf(' '))) : 1;
            for (int i = 0; i < times; i++) {
                for (Call call : Run.callsOf(row)) {
                    ask(call);
                }
            }
        }
    }

    /** True if the call answered. */
    private boolean ask(Call call) {
        String want = onModel(call);
        Check.due(world.length + " rows, then " + call, want, () -> call.on(x));
        asked++;
        return !want.startsWith("throws");
    }

    private String onModel(Call call) {
        Method method = MODEL.get(call.name);
        try {
            Object[] numbers = call.name.equals("feed") ? new Object[] {call.ints()} : call.numbers();
            Object answer = method.invoke(y, numbers);
            return method.getReturnType() == void.class ? "done" : String.valueOf(answer);
        } catch (InvocationTargetException thrown) {
            return "throws " + thrown.getCause().getClass().getSimpleName().replaceAll("Exception$", "");
        } catch (IllegalAccessException wrong) {
            throw new IllegalStateException(wrong);
        }
    }

    /** A call told by its name and what its numbers are. */
    private void all(String[] told) {
        String[][] corners = new String[told.length - 1][];
        int many = 1;
        for (int i = 0; i < corners.length; i++) {
            corners[i] = cornersOf(told[i + 1]);
            many *= corners[i].length;
        }
        for (int i = 0; i < many; i++) {
            List<String> numbers = new ArrayList<>();
            int rest = i;
            for (String[] one : corners) {
                numbers.add(one[rest % one.length]);
                rest /= one.length;
            }
            Call call = Call.told(told[0] + "(" + String.join(", ", numbers) + ")").get(0);
            // What answered may have changed all; and an object is used for 512 calls.
            if (ask(call) || asked > 500) {
                anew();
            }
        }
    }

    private String[] cornersOf(String kind) {
        switch (kind) {
            case "flag":
                return new String[] {"true", "false"};
            case "year":
                return range(1900, 2099, "1980");
            case "person":
                return range(0, x.count(0) - 1, "-2");
            case "hut":
                return range(0, x.count(1) - 1, "-2");
            case "either":
                return range(0, Math.max(x.count(0), x.count(1)) - 1, "" + Math.min(x.count(0), x.count(1)));
            case "storm":
                return range(0, x.count(5) - 1, "1");
            case "plank":
                return range(0, x.count(6) - 1, "1");
            case "set":
                return new String[] {"0", "1", "7", "8", "127", "255", "1016", "1023", "1024", "-1", "LEAST", "MOST"};
            case "near":
                return new String[] {"LEAST", "-1", "0", "1", "14", "15", "16", "399", "400", "401", "MOST"};
            default:
                String[] bounds = kind.split(":");
                return range(Integer.parseInt(bounds[0]), Integer.parseInt(bounds[1]), "4");
        }
    }

    private static String[] range(int least, int most, String another) {
        return new String[] {"LEAST", "" + (least - 1), "" + least, another, "" + most, "" + (most + 1), "MOST"};
    }

    /** All rows of so many things behind a text, and all shorter ones. */
    private static void texts(int sort, String begin, int many, String head) {
        CornersTest test = new CornersTest(new String[0]);
        test.text(sort, begin);
        test.longer(sort, begin, many, head);
    }

    private void longer(int sort, String begin, int many, String head) {
        if (many == 0) {
            return;
        }
        text(sort, begin + " " + head);
        longer(sort, begin + " " + head, many - 1, head);
        for (String thing : THINGS) {
            text(sort, begin + " " + thing);
            longer(sort, begin + " " + thing, many - 1, head);
        }
    }

    private void text(int sort, String text) {
        if (asked > 480) {
            anew();
        }
        for (Call call : Call.told("read(" + sort + ", '" + text + "')")) {
            ask(call);
        }
        ask(Call.told("fault()").get(0));
    }
}
