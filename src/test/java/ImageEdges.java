/** Promises 42 to 44: image, back, count. */
final class ImageEdges {
    private static final String IMAGE =
        "THE IMAGE (one) of all may be kept, and gone back to (but for the TAPE, fault() and THE "
        + "IMAGE itself).";
    private static final String NO_IMAGE =
        "One goes back to THE IMAGE: true; false, and nothing happens, if none was kept.";

    private ImageEdges() {
    }

    static void tell(Edges edges) {
        none(edges);
        one(edges);
        tapeAndFault(edges);
        full(edges);
        eachKind(edges);
        counts(edges);
        countsToday(edges);
    }

    private static void none(Edges edges) {
        edges.holds(43, NO_IMAGE, "back() = false", "back() = false", "person(1950, 5, true) = 0", "hut(1, 0, 0) = 0",
            "years(3) = 1983", "back() = false", "count(0) = 1", "count(1) = 1", "count(3) = 1983",
            "holder(0, 1980, 1980) = 0");
        // An image of nothing is one.
        edges.holds(43, NO_IMAGE, "image()", "person(1950, 5, true) = 0", "years(3) = 1983", "back() = true",
            "count(0) = 0", "count(3) = 1980", "back() = true", "person(1950, 5, true) = 0");
    }

    private static void one(Edges edges) {
        edges.holds(42, IMAGE, "person(1950, 5, true) = 0", "image()", "person(1950, 5, true) = 1", "image()",
            "person(1950, 5, true) = 2", "back() = true", "count(0) = 2", "back() = true", "count(0) = 2");
        // It stays when one goes back, and is not changed by what is told behind that.
        edges.holds(43, IMAGE, "person(1950, 5, true) = 0", "image()", "2 times person(1950, 5, true) = 2",
            "back() = true", "count(0) = 1", "event(1950, 0, 0, 0) = 1", "person(1950, 5, true) = 1", "back() = true",
            "count(0) = 1", "count(2) = 0", "about(0, 1980, 1980, 0) = 1", "person(1950, 5, true) = 1");
    }

    private static void tapeAndFault(Edges edges) {
        edges.holds(43, IMAGE, "tape('to child')", "image()", "text(0) = 1", "back() = true", "end(1) = false");
        edges.holds(43, IMAGE, "image()", "tape('to child')", "back() = true", "end(9) = false", "end(8) = true",
            "text(0) = 1");
        edges.holds(43, IMAGE, "read(0, 'to parrot') throws IllegalArgument", "image()", "fault() = 3",
            "read(0, 'to') throws IllegalArgument", "back() = true", "fault() = 2", "read(0, 'to child') = 1",
            "back() = true", "fault() = -1");
        edges.holds(42, IMAGE, "tape('to child')", "image()", "end(9) = false", "end(8) = true", "text(0) = 1");
    }

    private static void full(Edges edges) {
        // Back from where all is full, there is room again; and back to where it is full, there is none.
        edges.holds(43, IMAGE, World.of(2, 1, "image()", "10 times person(1950, 5, true)", "9 times hut(1, NONE, 0)",
            "40 times event(1950, 1, 0, 1) = 40", "waits(0, 1970)", "20 times freed(3) = 20",
            "10 times storm(1970, 0) = 9", "8 times plank(1, 0, 9) = 7", "20 times photo(0, 1970, 1) = 20",
            "12 times thief(5) = 12", "back() = true", "person(1950, 5, true) = 2", "hut(1, NONE, 0) = 1",
            "event(1950, 1, 0, 1) = 1", "waits(0, 1970) = 1", "freed(3) = 1", "storm(1970, 0) = 0",
            "plank(1, 0, 9) = 0", "photo(0, 1970, 1) = 1", "thief(5) = 1"));
        edges.holds(43, IMAGE, World.of(12, 10, "40 times event(1950, 1, 0, 1) = 40", "20 times freed(3) = 20",
            "10 times storm(1970, 0) = 9", "8 times plank(1, 0, 9) = 7", "20 times photo(0, 1970, 1) = 20",
            "12 times thief(5) = 12", "image()", "years(1)", "back() = true",
            "person(1950, 5, true) throws UnsupportedOperation", "hut(1, NONE, 0) throws UnsupportedOperation",
            "event(1950, 1, 0, 1) throws UnsupportedOperation", "freed(3) throws UnsupportedOperation",
            "storm(1970, 0) throws UnsupportedOperation", "plank(1, 0, 9) throws UnsupportedOperation",
            "photo(0, 1970, 1) throws UnsupportedOperation", "thief(5) throws UnsupportedOperation"));
        // What there is no more after going back is refused.
        edges.holds(43, IMAGE, "image()", "person(1950, 5, true) = 0", "hut(1, 0, 0) = 0", "storm(1970, 1) = 0",
            "plank(1, 0, 9) = 0", "back() = true", "about(0, 1980, 1980, 0) throws IndexOutOfBounds",
            "holder(0, 1980, 1980) throws IndexOutOfBounds", "sea(0, 1980, true) throws IndexOutOfBounds",
            "whose(0) throws IndexOutOfBounds", "storm(1970, 1) throws IllegalArgument");
    }

    /** Of all: each kind of thing that is told goes back, be there more of it behind the image, or another one. */
    private static void eachKind(Edges edges) {
        String[][] kinds = {
            {"person(1950, 5, true)", "count(0) = 0", "count(0) = 1"},
            {"hut(1, NONE, 0)", "count(1) = 0", "count(1) = 1"},
            {"freed(3)", "howLong(1, true) = -1", "howLong(1, true) = 1"},
            {"storm(1970, 0)", "count(5) = 0", "count(5) = 1"},
            {"plank(1, 0, 9)", "rows() = 1", "rows() = 0"},
            {"years(7)", "count(3) = 1980", "count(3) = 1987"}};
        for (String[] kind : kinds) {
            edges.holds(43, IMAGE, "image()", kind[1], kind[0], kind[2], "back() = true", kind[1]);
            edges.holds(42, IMAGE, kind[0], "image()", kind[2], "back() = true", kind[2]);
        }
        String[][] ofOne = {
            {"event(1950, 0, 0, 0)", "count(8) = 1", "count(8) = 0"},
            {"sale(1950, 0, 0, 5)", "count(2) = 0", "count(2) = 1"},
            {"waits(0, 1970)", "order(1, 1980, 1980) = -1", "order(1, 1980, 1980) = 0"},
            {"wind(59, 9)", "crane(1, 59, 1, true) = 59", "crane(1, 59, 1, true) = -1"},
            {"wind(0, 9)", "crane(1, 0, 1, true) = 0", "crane(1, 0, 1, true) = 1"},
            {"line(0, 10, 20)", "level(0, 1980, true) = 99", "level(0, 1980, true) = 20"},
            {"lost(0, 1, 3)", "rows() = 0", "rows() = 1"},
            {"photo(0, 1970, 1)", "count(7) = 0", "count(7) = 1"},
            {"thief(7)", "thieves(false) = -1", "thieves(false) = 2"},
            {"read(1, 'add 5')", "rent(0, 1980, 1980) = 0", "rent(0, 1980, 1980) = 5"},
            {"read(3, 'allow 5')", "allowed(0, 1980) = 255", "allowed(0, 1980) = 32"},
            {"read(3, '')", "allowed(0, 1980) = 255", "allowed(0, 1980) = 0"},
            {"event(1970, 6, 0, 1)", "place(0, 1980, 1980) = 0", "place(0, 1980, 1980) = 1"}};
        String[] told = {"person(1950, 5, true) = 0", "hut(9, NONE, 0) = 0", "hut(1, NONE, 0) = 1",
            "plank(8, 0, 9) = 0", "thief(5) = 1"};
        for (String[] kind : ofOne) {
            edges.holds(43, IMAGE, World.and(told, "image()", kind[1], kind[0], kind[2], "back() = true", kind[1]));
            edges.holds(42, IMAGE, World.and(told, kind[0], "image()", kind[2], "back() = true", kind[2]));
        }
        String[] family = World.of(2, 0, "hut(1, 0, 0) = 0", "event(1940, 1, 0, 1)", "event(1950, 0, 0, 0)");
        edges.holds(43, IMAGE, World.and(family, "image()", "read(0, 'to spouse') = 1", "holder(0, 1950, 1980) = 1",
            "back() = true", "holder(0, 1950, 1980) = -1"));
        edges.holds(43, IMAGE, World.of(2, 0, "waits(0, 1960)", "waits(1, 1970)", "image()",
            "read(2, 'less 1*waited') = 1", "order(1, 1980, 1980) = 1", "back() = true", "order(1, 1980, 1980) = 0"));
    }

    private static void counts(Edges edges) {
        for (String what : new String[] {"-1", "10", "11", "LEAST", "MOST"}) {
            edges.holds(44, "NONE for another what.", "count(" + what + ") = -1", "years(1)", "count(" + what
                + ") = -1");
            edges.holds(44, "NONE for another what.", World.rich("count(" + what + ") = -1"));
        }
        String all = "0 PERSONS, 1 HUTS, 2 EVENTS, 3 TODAY, 4 WAITERS, 5 STORMS, 6 PLANKS, 7 PHOTOGRAPHS, 8 PERSONS "
            + "LIVING TODAY, 9 HUTS that have a HOLDER TODAY.";
        edges.holds(44, all, World.rich("count(0) = 5", "count(1) = 3", "count(2) = 8", "count(3) = 1983",
                "count(4) = 2", "count(5) = 2", "count(6) = 2", "count(7) = 4", "count(8) = 3", "count(9) = 3"));
        edges.holds(44, all, World.of(12, 9, "hut(1, 11, 0) = 9", "40 times event(1950, 1, 0, 1) = 40",
            "10 times storm(1970, 0) = 9", "8 times plank(1, 0, 9) = 7", "20 times photo(0, 1970, 1) = 20",
            "years(119) = 2099", "count(0) = 12", "count(1) = 10", "count(2) = 40", "count(3) = 2099", "count(4) = 0",
            "count(5) = 10", "count(6) = 8", "count(7) = 20", "count(8) = 12", "count(9) = 1"));
    }

    private static void countsToday(Edges edges) {
        edges.holds(44, "8 PERSONS LIVING TODAY", World.of(2, 0, "count(8) = 2", "event(1980, 0, 0, 0)", "count(8) = 1",
            "event(1981, 0, 1, 0)", "count(8) = 1", "years(1) = 1981", "count(8) = 0"));
        edges.holds(44, "9 HUTS that have a HOLDER TODAY.", World.of(2, 2, "count(9) = 0", "event(1980, 5, 0, 0)",
            "count(9) = 1", "event(1981, 5, 1, 1)", "count(9) = 1", "years(1) = 1981", "count(9) = 2",
            "event(1981, 0, 0, 0)", "count(9) = 1"));
    }
}
