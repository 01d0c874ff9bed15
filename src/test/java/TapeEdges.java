import java.util.ArrayList;
import java.util.List;

/** Promises 1 to 5: a new object, feed, end, text, fault. */
final class TapeEdges {
    private static final String BLANKS = "feed(0x20202020, 0x20202020, 0x20202020, 0x20202020, 0x20202020)";
    private static final String SIGNS = "feed(0x21212121, 0x21212121, 0x21212121, 0x21212121, 0x21212121)";

    private TapeEdges() {
    }

    static void tell(Edges edges) {
        newObject(edges);
        lastCall(edges);
        feed(edges);
        feedFull(edges);
        end(edges);
        sorts(edges);
        usedUp(edges);
        staysInForce(edges);
        fault(edges);
    }

    private static void newObject(Edges edges) {
        edges.holds(1, "Nobody, no HUTS; TODAY is 1980.",
            "count(0) = 0", "count(1) = 0", "count(3) = 1980", "years(0) = 1980", "count(8) = 0", "count(9) = 0");
        String[] nobodyAndNoHut = {"hut(1, 0, 0)", "event(1980, 0, 0, 0)", "event(1980, 5, 0, 0)",
            "event(1980, 6, 0, 0)", "sale(1980, 0, 0, 0)", "holder(0, 1980, 1980)", "since(0, 1980, 1980)",
            "place(0, 1980, 1980)", "about(0, 1980, 1980, 0)", "rent(0, 1980, 1980)", "waits(0, 1980)",
            "lift(0, 1, 0, 0)", "line(0, 0, 0)", "sea(0, 1980, true)", "level(0, 1980, true)", "lost(0, 0, 0)",
            "whose(0)", "photo(0, 1980, 0)", "allowed(0, 1980)", "breaches(0)", "painted(0)"};
        for (String call : nobodyAndNoHut) {
            edges.holds(1, "Nobody, no HUTS; TODAY is 1980.", call + " throws IndexOutOfBounds");
        }
        edges.holds(1, "Nobody, no HUTS; TODAY is 1980.",
            "leaves(1980, 9) = 0", "income(1980, 9) = 0", "order(1, 1980, 1980) = -1", "howLong(1, true) = -1",
            "toll(1980, 100) = 0", "dodged(99) = 0", "lift(-1, 1, 0, NONE) = 0", "crane(-1, 7, 1, true) = 7",
            "flood(100, 1980, true) = 0", "rows() = 1", "thieves(false) = -1", "back() = false", "fault() = -1",
            "count(2) = 0", "count(4) = 0", "count(5) = 0", "count(6) = 0", "count(7) = 0", "end(1) = false");
    }

    private static void lastCall(Edges edges) {
        List<String> rows = new ArrayList<>();
        rows.add("hut(9, NONE, 20)");
        // Five calls each: end, feed, end, text, rent.
        for (int i = 0; i < 102; i++) {
            rows.add("read(1, 'add " + i + "') = 1");
            rows.add("rent(0, 1980, 1980) = " + i);
        }
        rows.add("crane(1, 59, 1, true) = 59");
        edges.holds(1, "An object is used for at most 512 calls after it has been made",
            rows.toArray(new String[0]));
    }

    private static void feed(Edges edges) {
        for (int at = 0; at < 20; at++) {
            for (int sign : new int[] {'!', 0, 255}) {
                int[] n = new int[5];
                for (int i = 0; i < 20; i++) {
                    n[i / 4] = n[i / 4] << 8 | (i == at ? sign : ' ');
                }
                edges.holds(2, "Twenty bytes come behind the TAPE, of each number the highest first: how many it has",
                    "feed(" + n[0] + ", " + n[1] + ", " + n[2] + ", " + n[3] + ", " + n[4] + ") = 20",
                    "text(0) throws IllegalArgument", "fault() = " + at);
            }
        }
        edges.holds(2, "Twenty bytes come behind the TAPE",
            BLANKS + " = 20", SIGNS + " = 40", "text(0) throws IllegalArgument", "fault() = 20");
        edges.holds(2, "Twenty bytes come behind the TAPE",
            BLANKS + " = 20", "end(7) = true", SIGNS + " = 27", "text(0) throws IllegalArgument", "fault() = 7");
        edges.holds(2, "Twenty bytes come behind the TAPE",
            "feed(LEAST, MOST, -1, 0, 1) = 20", "text(0) throws IllegalArgument", "fault() = 0");
    }

    private static void feedFull(Edges edges) {
        String sentence = "NONE, and none come, if it would have more than 400.";
        edges.holds(2, sentence, "19 times " + BLANKS + " = 380", BLANKS + " = 400", BLANKS + " = -1",
            "end(401) = false", "end(400) = true");
        edges.holds(2, sentence, "20 times " + BLANKS + " = 400", SIGNS + " = -1", "text(0) = 0", "fault() = -1");
        edges.holds(2, sentence, "20 times " + BLANKS + " = 400", "end(381) = true", SIGNS + " = -1",
            "end(382) = false", "end(381) = true", "text(0) = 0");
        edges.holds(2, sentence, "20 times " + BLANKS + " = 400", "end(380) = true", SIGNS + " = 400",
            "text(0) throws IllegalArgument", "fault() = 380");
        edges.holds(2, sentence, "20 times " + BLANKS + " = 400", "end(399) = true", BLANKS + " = -1",
            "text(0) = 0", "20 times " + BLANKS + " = 400", BLANKS + " = -1");
        edges.holds(2, sentence, "20 times " + BLANKS + " = 400", "end(1) = true", "18 times " + BLANKS + " = 361",
            BLANKS + " = 381", BLANKS + " = -1");
    }

    private static void end(Edges edges) {
        String sentence = "The TAPE has its first n bytes alone: true; false, and nothing happens, if it has fewer, "
            + "or n is below 0.";
        edges.holds(3, sentence, "end(0) = true", "end(1) = false", "end(-1) = false", "end(LEAST) = false",
            "end(MOST) = false");
        edges.holds(3, sentence, BLANKS + " = 20", "end(21) = false", "end(20) = true", "end(20) = true",
            "end(19) = true", "end(20) = false", "end(0) = true", "end(1) = false", BLANKS + " = 20");
        edges.holds(3, sentence, SIGNS + " = 20", "end(-1) = false", "end(LEAST) = false", "end(21) = false",
            "end(MOST) = false", BLANKS + " = 40", "end(40) = true");
        // The bytes behind are gone for good: others come in their place.
        edges.holds(3, sentence, "tape('to child;to parrot')", "end(8) = true", "text(0) = 1");
        edges.holds(3, sentence, "tape('to child;to parrot')", "end(9) = true", "text(0) throws IllegalArgument",
            "fault() = 9");
        edges.holds(3, sentence, SIGNS, "end(0) = true", BLANKS + " = 20", "text(0) = 0");
        edges.holds(3, sentence, SIGNS, SIGNS, "end(0) = true", "text(3) = 0", "fault() = -1");
    }

    private static void sorts(Edges edges) {
        String sentence = "a text of a sort 0 RIGHTS, 1 RENTS, 2 WAITS, 3 PAINT is in force: how many LINES it has.";
        edges.holds(4, sentence, "read(0, 'to child') = 1", "read(1, 'add 1') = 1", "read(2, 'add 1') = 1",
            "read(3, 'allow 1') = 1");
        for (String none : new String[] {"-1", "4", "LEAST", "MOST", "256", "-2"}) {
            edges.holds(4, "IllegalArgumentException: there is no such sort, or the text is wrong.",
                "tape('to child')", "text(" + none + ") throws IllegalArgument", "fault() = -1", "end(1) = false");
            edges.holds(4, "IllegalArgumentException: there is no such sort, or the text is wrong.",
                World.rich("text(" + none + ") throws IllegalArgument", "fault() = 3", "end(1) = false"));
        }
        for (int sort = 0; sort < 4; sort++) {
            edges.holds(4, "IllegalArgumentException: there is no such sort, or the text is wrong.",
                World.rich("read(" + sort + ", 'to add allow') throws IllegalArgument"));
        }
    }

    private static void usedUp(Edges edges) {
        String sentence = "Uses the TAPE up";
        edges.holds(4, sentence, "tape('to child')", "text(0) = 1", "end(1) = false", "end(0) = true",
            "text(0) = 0", BLANKS + " = 20");
        edges.holds(4, sentence, "tape('to parrot')", "text(0) throws IllegalArgument", "end(1) = false",
            "text(0) = 0", BLANKS + " = 20");
        edges.holds(4, sentence, "20 times " + BLANKS + " = 400", "text(4) throws IllegalArgument",
            "end(1) = false", BLANKS + " = 20");
        edges.holds(4, "a call that throws changes nothing but the TAPE, where it is used up.",
            World.rich("text(1) throws IllegalArgument", "end(1) = false", BLANKS + " = 20"));
        // No other call uses it up, be it refused or not.
        edges.holds(4, "a call that throws changes nothing but the TAPE, where it is used up.",
            World.rich("end(16) = false", "end(15) = true", "years(-1) throws IllegalArgument",
                "holder(3, 1980, 1980) throws IndexOutOfBounds", "back() = true", "image()", "end(16) = false",
                "end(15) = true", "text(0) throws IllegalArgument", "fault() = 13"));
    }

    private static void staysInForce(Edges edges) {
        String sentence = "a call that throws changes nothing but the TAPE, where it is used up.";
        edges.holds(4, sentence, World.of(2, 0, "hut(1, 0, 0) = 0", "event(1950, 1, 0, 1)", "event(1960, 0, 0, 0)",
            "read(0, 'to spouse') = 1", "holder(0, 1960, 1980) = 1",
            "read(0, 'to child; to parrot') throws IllegalArgument", "holder(0, 1960, 1980) = 1",
            "read(0, 'to child') = 1", "holder(0, 1960, 1980) = -1"));
        edges.holds(4, sentence, World.of(0, 1, "read(1, 'add 7') = 1",
            "read(1, 'add 8; add') throws IllegalArgument", "rent(0, 1980, 1980) = 7"));
        edges.holds(4, sentence, World.of(2, 0, "waits(0, 1960) = 1", "waits(1, 1970) = 2",
            "read(2, 'less 1*waited') = 1", "read(2, 'add 1*waited;add') throws IllegalArgument",
            "order(1, 1980, 1980) = 1"));
        edges.holds(4, sentence, World.of(0, 1, "read(3, 'allow 5') = 1",
            "read(3, 'allow 6;allow 8') throws IllegalArgument", "allowed(0, 1980) = 32"));
        // A text of one sort leaves the others.
        edges.holds(4, "A later text of a sort is in force in place of the one before, in all YEARS.",
            World.of(0, 1, "read(1, 'add 7') = 1", "read(3, 'allow 5') = 1", "read(2, '') = 0", "read(0, '') = 0",
                "rent(0, 1900, 1900) = 7", "rent(0, 2099, 2099) = 7", "allowed(0, 1900) = 32",
                "read(1, 'add 8') = 1", "rent(0, 1900, 1900) = 8", "rent(0, 2099, 2099) = 8",
                "allowed(0, 2099) = 32", "read(1, '') = 0", "rent(0, 1900, 1900) = 0", "allowed(0, 1900) = 32"));
    }

    private static void fault(Edges edges) {
        String sentence = "The first wrong byte of the latest text that was read; NONE without one, and ahead of any.";
        edges.holds(5, sentence, "fault() = -1", "tape('to parrot')", "fault() = -1", "text(0) throws IllegalArgument",
            "fault() = 3", "fault() = 3", "read(3, 'allow 8') throws IllegalArgument", "fault() = 6",
            "read(3, 'allow 7') = 1", "fault() = -1", "read(1, '!') throws IllegalArgument", "fault() = 0",
            "text(1) = 0", "fault() = -1");
        edges.holds(5, sentence, "read(0, 'to') throws IllegalArgument", "tape('to child')", "fault() = 2",
            "text(9) throws IllegalArgument", "fault() = 2", "person(1, 1, true) throws IllegalArgument",
            "image()", "back() = true", "years(1) = 1981", "fault() = 2");
        // The last of 400 bytes, and the end behind it.
        edges.holds(5, sentence, "tape('" + " ".repeat(399) + "!')", "text(0) throws IllegalArgument",
            "fault() = 399");
        edges.holds(5, sentence, "tape('to" + " ".repeat(398) + "')", "text(0) throws IllegalArgument",
            "fault() = 400");
    }
}
