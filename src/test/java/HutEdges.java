/** Promises 8 and 10 to 13: hut, sale, holder, since, place; and RIGHTS. */
final class HutEdges {
    private HutEdges() {
    }

    static void tell(Edges edges) {
        hutNumbers(edges);
        hutHolders(edges);
        manyHuts(edges);
        saleNumbers(edges);
        manySales(edges);
        asks(edges);
        sales(edges);
        given(edges);
        kinds(edges);
        died(edges);
        rights(edges);
        rightsFacts(edges);
        since(edges);
        places(edges);
    }

    private static void hutNumbers(Edges edges) {
        edges.holds(8, "SIZE (1 to 9)", "hut(1, NONE, 0) = 0", "hut(9, NONE, 0) = 1",
            "hut(0, NONE, 0) throws IllegalArgument", "hut(10, NONE, 0) throws IllegalArgument",
            "hut(-1, NONE, 0) throws IllegalArgument", "hut(LEAST, NONE, 0) throws IllegalArgument",
            "hut(MOST, NONE, 0) throws IllegalArgument", "count(1) = 2");
        edges.holds(8, "SIZE (1 to 9)", "hut(1, NONE, 0) = 0", "hut(9, NONE, 0) = 1", "read(1, 'add 1*size') = 1",
            "rent(0, 1980, 1980) = 1", "rent(1, 1980, 1980) = 9");
        edges.holds(8, "WEEKS that it is let (0 to 20)", "hut(1, NONE, 0) = 0", "hut(1, NONE, 20) = 1",
            "hut(1, NONE, -1) throws IllegalArgument", "hut(1, NONE, 21) throws IllegalArgument",
            "hut(1, NONE, LEAST) throws IllegalArgument", "hut(1, NONE, MOST) throws IllegalArgument", "count(1) = 2",
            "read(1, 'add 1*weeks') = 1", "rent(0, 1980, 1980) = 0", "rent(1, 1980, 1980) = 20");
        edges.holds(8, "IllegalArgumentException: a number is none;", World.rich("hut(0, 0, 0) throws IllegalArgument",
            "hut(10, NONE, 0) throws IllegalArgument", "hut(1, 0, 21) throws IllegalArgument",
            "hut(1, 0, -1) throws IllegalArgument", "count(1) = 3"));
    }

    private static void hutHolders(Edges edges) {
        edges.holds(8, "A HUT: its number (holder NONE: none).", World.of(2, 0, "hut(1, NONE, 0) = 0",
            "holder(0, 1900, 1900) = -1", "hut(1, 0, 0) = 1", "holder(1, 1900, 1900) = 0", "hut(1, 1, 0) = 2",
            "holder(2, 1900, 1900) = 1", "count(9) = 2"));
        for (String nobody : new String[] {"2", "-2", "12", "LEAST", "MOST"}) {
            edges.holds(8, Edges.NO_SUCH, World.of(2, 0, "hut(1, " + nobody + ", 0) throws IndexOutOfBounds",
                // The one told first, also if numbers are none.
                "hut(0, " + nobody + ", 0) throws IndexOutOfBounds",
                "hut(1, " + nobody + ", 21) throws IndexOutOfBounds",
                "count(1) = 0"));
        }
        edges.holds(8, Edges.NO_SUCH, World.rich("hut(1, 5, 0) throws IndexOutOfBounds",
            "hut(0, -2, 99) throws IndexOutOfBounds"));
    }

    private static void manyHuts(Edges edges) {
        String sentence = "HUTS (at most 10, numbered from 0 on)";
        edges.holds(8, sentence, World.of(1, 0, "hut(1, 0, 0) = 0", "8 times hut(1, NONE, 0) = 8", "hut(9, 0, 20) = 9",
            "hut(1, NONE, 0) throws UnsupportedOperation", "hut(9, 0, 20) throws UnsupportedOperation", "count(1) = 10",
            "count(9) = 2", "holder(9, 1980, 1980) = 0", "holder(10, 1980, 1980) throws IndexOutOfBounds"));
        edges.holds(8, Edges.FIRST_TOLD, World.of(1, 10, "hut(0, 1, 0) throws IndexOutOfBounds",
            "hut(1, -2, 0) throws IndexOutOfBounds", "hut(0, 0, 0) throws IllegalArgument",
            "hut(1, 0, 21) throws IllegalArgument", "hut(1, 0, 20) throws UnsupportedOperation"));
        edges.holds(8, "UnsupportedOperationException: there are 10.", World.rich("7 times hut(1, 2, 0) = 9",
            "hut(1, NONE, 0) throws UnsupportedOperation"));
        edges.holds(13, "the row is by numbers at first.", World.of(0, 10, "place(0, 1900, 1900) = 0",
            "place(1, 1900, 1900) = 1", "place(5, 1980, 1980) = 5", "place(8, 2099, 2099) = 8",
            "place(9, 2099, 2099) = 9"));
    }

    private static void saleNumbers(Edges edges) {
        String price = "A SALE has a PRICE (0 to 9999).";
        edges.holds(10, price, World.of(2, 0, "hut(1, 0, 0) = 0", "sale(1950, 0, 1, 0) = 1",
            "sale(1951, 0, 0, 9999) = 2", "sale(1950, 0, 1, -1) throws IllegalArgument",
            "sale(1950, 0, 1, 10000) throws IllegalArgument", "sale(1950, 0, 1, LEAST) throws IllegalArgument",
            "sale(1950, 0, 1, MOST) throws IllegalArgument", "count(2) = 2", "toll(1950, 100) = 0",
            "toll(1951, 100) = 9999"));
        edges.holds(10, "IllegalArgumentException: the PRICE is none.",
            World.rich("sale(1950, 0, 1, -1) throws IllegalArgument", "sale(1950, 2, 4, 10000) throws IllegalArgument",
            "count(2) = 8"));
        edges.holds(10, Edges.YEARS, World.of(2, 0, "hut(1, 0, 0) = 0", "sale(1900, 0, 1, 5) = 1",
            "sale(2099, 0, 0, 5) = 2", "sale(1899, 0, 1, 5) throws IndexOutOfBounds",
            "sale(2100, 0, 1, 5) throws IndexOutOfBounds", "sale(LEAST, 0, 1, 5) throws IndexOutOfBounds",
            "sale(MOST, 0, 1, 5) throws IndexOutOfBounds", "holder(0, 1900, 1980) = 1", "holder(0, 2098, 1980) = 1",
            "holder(0, 2099, 1980) = 0"));
        for (String none : new String[] {"2", "-1", "LEAST", "MOST"}) {
            edges.holds(10, Edges.NO_SUCH, World.of(2, 2, "sale(1950, " + none + ", 1, 5) throws IndexOutOfBounds",
                "sale(1950, 0, " + none + ", 5) throws IndexOutOfBounds",
                "sale(1950, " + none + ", 1, -1) throws IndexOutOfBounds",
                "sale(1950, 0, " + none + ", 10000) throws IndexOutOfBounds",
                "sale(2100, " + none + ", 1, -1) throws IndexOutOfBounds", "count(2) = 0"));
        }
        edges.holds(10, Edges.NO_SUCH, World.of(2, 2, "sale(1950, 1, 1, 5) = 1",
            "sale(1899, 1, 1, -1) throws IndexOutOfBounds"));
        edges.holds(10, Edges.NO_SUCH, World.rich("sale(1950, 3, 0, 5) throws IndexOutOfBounds",
            "sale(1950, 0, 5, 5) throws IndexOutOfBounds", "sale(2100, 0, 0, 5) throws IndexOutOfBounds"));
    }

    private static void manySales(Edges edges) {
        edges.holds(10, "A SALE: likewise.", World.of(2, 1, "39 times sale(1950, 0, 1, 5) = 39",
            "sale(1951, 0, 0, 5) = 40", "sale(1950, 0, 1, 5) throws UnsupportedOperation",
            "event(1950, 0, 1, 0) throws UnsupportedOperation", "sale(1950, 0, 1, 10000) throws IllegalArgument",
            "sale(1950, 1, 1, 5) throws IndexOutOfBounds", "sale(1950, 0, 2, -1) throws IndexOutOfBounds",
            "sale(1899, 0, 1, -1) throws IndexOutOfBounds", "count(2) = 40"));
        edges.holds(10, "A SALE: likewise.", World.rich("32 times sale(1950, 0, 1, 5) = 40",
            "sale(1950, 0, 1, 5) throws UnsupportedOperation"));
    }

    private static void asks(Edges edges) {
        int[] promises = {11, 12, 13, 15};
        String[] names = {"holder", "since", "place", "rent"};
        int[] first = {-1, -1, 0, 0};
        for (int i = 0; i < names.length; i++) {
            String[] none = {"2, 1980, 1980", "-1, 1980, 1980", "LEAST, 1980, 1980", "MOST, 1980, 1980", "0, 1899, 1980",
                "0, 2100, 1980", "0, LEAST, 1980", "0, MOST, 1980", "0, 1980, 1899", "0, 1980, 2100", "0, 1980, LEAST",
                "0, 1980, MOST"};
            for (String wrong : none) {
                edges.holds(promises[i], Edges.NO_SUCH, World.of(5, 2, names[i] + "(" + wrong
                    + ") throws IndexOutOfBounds"));
            }
            edges.holds(promises[i], Edges.NO_SUCH, World.rich(names[i] + "(3, 1980, 1980) throws IndexOutOfBounds",
                names[i] + "(0, 1899, 1980) throws IndexOutOfBounds", names[i]
                + "(0, 1980, 2100) throws IndexOutOfBounds"));
            edges.holds(promises[i], Edges.YEARS, World.of(5, 2, names[i] + "(0, 1900, 2099) = " + first[i],
                names[i] + "(0, 2099, 1900) = " + first[i], names[i] + "(0, 1900, 1900) = " + first[i],
                names[i] + "(0, 2099, 2099) = " + first[i]));
        }
    }

    private static void sales(Edges edges) {
        String sentence = "SALE: if it has one who is not b, b holds it then, if b lives;";
        edges.holds(11, sentence, World.of(3, 1, "sale(1950, 0, 1, 5) = 1", "holder(0, 1950, 1980) = -1",
            "since(0, 1950, 1980) = -1"));
        edges.holds(11, sentence, World.of(3, 0, "hut(1, 0, 0) = 0", "sale(1950, 0, 0, 5) = 1",
            "holder(0, 1950, 1980) = 0", "since(0, 1950, 1980) = 1900", "sale(1951, 0, 1, 5) = 2",
            "holder(0, 1951, 1980) = 1", "since(0, 1951, 1980) = 1951", "sale(1952, 0, 1, 5) = 3",
            "since(0, 1952, 1980) = 1951"));
        // b DIED ahead of it in that YEAR, or behind it.
        edges.holds(11, sentence, World.of(3, 0, "hut(1, 0, 0) = 0", "event(1950, 0, 1, 0)", "sale(1950, 0, 1, 5)",
            "holder(0, 1950, 1980) = 0", "sale(1949, 0, 1, 5)", "holder(0, 1949, 1980) = 1",
            "holder(0, 1950, 1980) = -1"));
        edges.holds(11, sentence, World.of(3, 0, "hut(1, 0, 0) = 0", "sale(1950, 0, 1, 5)", "event(1950, 0, 1, 0)",
            "holder(0, 1949, 1980) = 0", "holder(0, 1950, 1980) = -1"));
        edges.holds(11, "HOLDER IN a YEAR, as known; NONE.", World.of(3, 0, "hut(1, 0, 0) = 0", "sale(1950, 0, 1, 5)",
            "holder(0, 1949, 1980) = 0", "holder(0, 1950, 1979) = 0", "holder(0, 1950, 1980) = 1", "years(1)",
            "event(1949, 0, 1, 0)", "holder(0, 1950, 1980) = 1", "holder(0, 1950, 1981) = 0"));
    }

    private static void given(Edges edges) {
        String sentence = "GIVEN: if it has none, likewise.";
        edges.holds(11, sentence, World.of(3, 1, "event(1950, 5, 0, 1) = 1", "holder(0, 1949, 1980) = -1",
            "holder(0, 1950, 1980) = 1", "since(0, 1950, 1980) = 1950", "event(1951, 5, 0, 2) = 2",
            "holder(0, 1951, 1980) = 1", "event(1952, 5, 0, 1) = 3", "since(0, 1952, 1980) = 1950"));
        edges.holds(11, sentence, World.of(3, 1, "event(1950, 0, 1, 0) = 1", "event(1950, 5, 0, 1) = 2",
            "holder(0, 1950, 1980) = -1", "event(1951, 5, 0, 2) = 3", "holder(0, 1951, 1980) = 2"));
        edges.holds(11, sentence, World.of(3, 0, "hut(1, 0, 0) = 0", "event(1950, 5, 0, 1)",
            "holder(0, 1950, 1980) = 0", "event(1949, 0, 0, 0)", "holder(0, 1949, 1980) = -1",
            "holder(0, 1950, 1980) = 1"));
    }

    /** Each KIND of EVENT does what it says, and nothing of what another one does. */
    private static void kinds(Edges edges) {
        String sentence = "EVENTS (at most 40): of a YEAR, of a KIND: 0 DIED a; 1 WED a, b; 2 PARTED a, b; 3 CHILD: a has "
            + "the child b; 4 SALE of a HUT a to b; 5 GIVEN: the HUT a to b; 6 MOVED: the HUT a to the PLACE b in the row.";
        String[] told = World.of(3, 3, "event(1940, 5, 1, 0)", "event(1941, 1, 0, 2)", "read(0, 'to child') = 1");
        String[] asks = {"place(0, 1950, 1980)", "place(2, 1950, 1980)", "holder(0, 1950, 1980)", "holder(1, 1950, 1980)",
            "about(0, 1950, 1980, 0)", "about(1, 1950, 1980, 0)", "about(2, 1950, 1980, 0)", "about(0, 1950, 1980, 1)",
            "about(0, 1950, 1980, 2)", "about(2, 1950, 1980, 1)", "about(2, 1950, 1980, 4)"};
        String[] events = {"event(1950, 0, 0, 2)", "event(1950, 1, 0, 1)", "event(1950, 2, 0, 2)", "event(1950, 3, 0, 2)",
            "sale(1950, 1, 2, 5)", "event(1950, 5, 0, 2)", "event(1950, 6, 0, 2)"};
        int[][] answers = {
            {0, 2, -1, -1, 0, 1, 1, 2, 0, -1, -1}, {0, 2, -1, 0, 1, 1, 1, 1, 0, 0, -1},
            {0, 2, -1, 0, 1, 1, 1, -1, 0, -1, -1}, {0, 2, -1, 0, 1, 1, 1, 2, 1, 0, 0},
            {0, 2, -1, 2, 1, 1, 1, 2, 0, 0, -1}, {0, 2, 2, 0, 1, 1, 1, 2, 0, 0, -1},
            {2, 1, -1, 0, 1, 1, 1, 2, 0, 0, -1}};
        for (int i = 0; i < events.length; i++) {
            String[] rows = World.and(told, events[i] + " = 3");
            for (int j = 0; j < asks.length; j++) {
                rows = World.and(rows, asks[j] + " = " + answers[i][j]);
            }
            edges.holds(9, sentence, rows);
        }
    }

    private static void died(Edges edges) {
        String none = "(the latest text; without any to none)";
        edges.holds(11, none, World.of(2, 0, "hut(1, 0, 0) = 0", "event(1940, 1, 0, 1)", "event(1950, 0, 0, 0)",
            "holder(0, 1949, 1980) = 0", "holder(0, 1950, 1980) = -1", "read(0, 'to spouse') = 1",
            "holder(0, 1950, 1980) = 1", "read(0, 'to child') = 1", "holder(0, 1950, 1980) = -1", "text(0) = 0",
            "holder(0, 1950, 1980) = -1"));
        // By numbers, and all of them; those of others stay.
        edges.holds(11, "DIED: each HUT that a holds (by numbers)", World.of(2, 0, "hut(1, 0, 0) = 0",
            "hut(1, 1, 0) = 1", "hut(1, 0, 0) = 2", "hut(1, NONE, 0) = 3", "6 times hut(1, 0, 0) = 9",
            "event(1940, 1, 0, 1)", "event(1950, 0, 0, 0)", "read(0, 'to spouse') = 1",
            "about(1, 1950, 1980, 6) = 1015", "holder(1, 1950, 1980) = 1", "since(1, 1950, 1980) = 1900",
            "since(0, 1950, 1980) = 1950", "since(9, 1950, 1980) = 1950", "holder(3, 1950, 1980) = -1"));
        // One who DIED holds none, so that a second time nothing goes on.
        edges.holds(11, "(One DIES once;", World.of(3, 0, "hut(1, 0, 0) = 0", "event(1940, 1, 0, 1)",
            "event(1950, 0, 0, 0)", "read(0, 'to spouse') = 1", "event(1960, 0, 0, 0)", "holder(0, 1960, 1980) = 1",
            "since(0, 1960, 1980) = 1950"));
        edges.holds(11, "(All as it stands when a has DIED.)", World.of(3, 0, "hut(1, 0, 0) = 0",
            "event(1950, 0, 0, 0)", "event(1950, 1, 0, 1)", "read(0, 'to spouse') = 1", "holder(0, 1950, 1980) = -1",
            "event(1949, 1, 0, 2)", "holder(0, 1950, 1980) = 2"));
    }

    private static void rights(Edges edges) {
        String sentence = "the first LINE that holds and whose one is there: that one; else none.";
        String[] family = World.of(5, 0, "hut(1, 0, 0) = 0", "event(1940, 1, 0, 1)", "event(1940, 3, 0, 2)",
            "event(1940, 3, 3, 0)", "event(1940, 3, 3, 4)", "event(1950, 0, 0, 0)");
        edges.holds(11, sentence, World.and(family, "read(0, 'to spouse') = 1", "holder(0, 1950, 1980) = 1",
            "read(0, 'to child') = 1", "holder(0, 1950, 1980) = 2", "read(0, 'to parent') = 1",
            "holder(0, 1950, 1980) = 3", "read(0, 'to brother') = 1", "holder(0, 1950, 1980) = 4"));
        edges.holds(11, sentence, World.and(family, "read(0, 'to parent if 1>2; to brother; to spouse') = 3",
            "holder(0, 1950, 1980) = 4", "event(1949, 0, 4, 0)", "holder(0, 1950, 1980) = 1", "event(1949, 2, 0, 1)",
            "holder(0, 1950, 1980) = -1"));
        // The tenth LINE is the first whose one is there.
        edges.holds(11, sentence, World.of(2, 0, "hut(1, 0, 0) = 0", "event(1940, 1, 0, 1)", "event(1950, 0, 0, 0)",
            "read(0, 'to child" + ";to parent".repeat(8) + ";to spouse') = 10", "holder(0, 1950, 1980) = 1",
            "read(0, 'to child" + ";to spouse if 1>2".repeat(8) + ";to brother') = 10", "holder(0, 1950, 1980) = -1"));
        // To who DIED in that YEAR before: not there.
        edges.holds(11, sentence, World.of(2, 0, "hut(1, 0, 0) = 0", "event(1940, 1, 0, 1)", "event(1950, 0, 1, 0)",
            "event(1950, 0, 0, 0)", "read(0, 'to spouse') = 1", "holder(0, 1950, 1980) = -1"));
        edges.holds(11, sentence, World.of(2, 0, "hut(1, 0, 0) = 0", "event(1940, 1, 0, 1)", "event(1950, 0, 0, 0)",
            "event(1950, 0, 1, 0)", "read(0, 'to spouse; to child') = 2", "holder(0, 1950, 1980) = -1"));
    }

    private static void rightsFacts(Edges edges) {
        String[] told = {"person(1930, 5, true) = 0", "person(1930, 5, true) = 1", "person(1930, 5, true) = 2",
            "person(1930, 5, true) = 3", "hut(9, 1, 0) = 0", "event(1935, 1, 0, 1)", "sale(1940, 0, 0, 5)",
            "event(1941, 3, 0, 2)", "event(1942, 3, 0, 3)", "event(1943, 0, 3, 0)", "event(1950, 0, 0, 0)"};
        String[] hold = {"held > 9", "held < 11", "age > 19", "age < 21", "children > 0", "children < 2", "year > 1949",
            "year < 1951", "size > 8", "size < 10", "local"};
        for (String condition : hold) {
            edges.holds(11, "held: YEARS since SINCE (0 without a HOLDER); age: YEARS since BORN (0 at least); "
                + "children: how many.", World.and(told, "read(0, 'to spouse if " + condition + "') = 1",
                    "holder(0, 1950, 1980) = 1", "read(0, 'to spouse if not " + condition + "') = 1",
                    "holder(0, 1950, 1980) = -1"));
        }
        // DIED in the very YEAR of BORN, SINCE, and ahead of BORN.
        edges.holds(11, "age: YEARS since BORN (0 at least)", World.of(2, 0, "hut(1, 0, 0) = 0", "event(1940, 1, 0, 1)",
            "event(1949, 0, 0, 0)", "read(0, 'to spouse if age < 1') = 1", "holder(0, 1949, 1980) = 1",
            "read(0, 'to spouse if 0 > age') = 1", "holder(0, 1949, 1980) = -1"));
        edges.holds(11, "age: YEARS since BORN (0 at least)", World.of(2, 0, "hut(1, 0, 0) = 0", "event(1940, 1, 0, 1)",
            "event(1951, 0, 0, 0)", "read(0, 'to spouse if age > 0') = 1", "holder(0, 1951, 1980) = 1",
            "read(0, 'to spouse if age > 1') = 1", "holder(0, 1951, 1980) = -1"));
        edges.holds(11, "held: YEARS since SINCE", World.of(2, 0, "hut(1, 1, 0) = 0", "event(1940, 1, 0, 1)",
            "sale(1950, 0, 0, 5)", "event(1950, 0, 0, 0)", "read(0, 'to spouse if held < 1') = 1",
            "holder(0, 1950, 1980) = 1", "read(0, 'to spouse if held > 0') = 1", "holder(0, 1950, 1980) = -1"));
        // local: of him who DIED, not of who comes to hold it.
        edges.holds(11, "local: of him who DIED", "person(1950, 5, false) = 0", "person(1950, 5, true) = 1",
            "hut(1, 0, 0) = 0", "event(1940, 1, 0, 1)", "event(1950, 0, 0, 0)", "read(0, 'to spouse if local') = 1",
            "holder(0, 1950, 1980) = -1", "read(0, 'to spouse if not local') = 1", "holder(0, 1950, 1980) = 1");
    }

    private static void since(Edges edges) {
        edges.holds(12, "SINCE: the YEAR in which one came to hold it; of the first HOLDER 1900.", World.of(3, 0,
            "hut(1, 0, 0) = 0", "since(0, 1900, 1900) = 1900", "since(0, 2099, 1980) = 1900", "sale(1950, 0, 1, 5)",
            "since(0, 1949, 1980) = 1900", "since(0, 1950, 1980) = 1950", "since(0, 1980, 1980) = 1950",
            "since(0, 1980, 1979) = 1900", "sale(1960, 0, 0, 5)", "since(0, 1960, 1980) = 1960"));
        edges.holds(12, "SINCE; NONE without a HOLDER.", World.of(3, 1, "since(0, 1980, 1980) = -1",
            "event(1950, 5, 0, 1)", "since(0, 1949, 1980) = -1", "since(0, 1950, 1980) = 1950", "event(1960, 0, 1, 0)",
            "since(0, 1959, 1980) = 1950", "since(0, 1960, 1980) = -1"));
    }

    private static void places(Edges edges) {
        String sentence = "MOVED: the HUT is taken out of the row and put in so that it has that PLACE";
        edges.holds(13, sentence, World.of(0, 4, "event(1950, 6, 0, 3)", "place(0, 1949, 1980) = 0",
            "place(0, 1950, 1980) = 3", "place(1, 1950, 1980) = 0", "place(2, 1950, 1980) = 1",
            "place(3, 1950, 1980) = 2"));
        edges.holds(13, sentence, World.of(0, 4, "event(1950, 6, 3, 0)", "place(3, 1950, 1980) = 0",
            "place(0, 1950, 1980) = 1", "place(1, 1950, 1980) = 2", "place(2, 1950, 1980) = 3"));
        edges.holds(13, "all others keep their order.", World.of(0, 4, "event(1950, 6, 1, 2)",
            "place(0, 1950, 1980) = 0", "place(2, 1950, 1980) = 1", "place(1, 1950, 1980) = 2",
            "place(3, 1950, 1980) = 3", "event(1951, 6, 2, 1)", "place(0, 1951, 1980) = 0", "place(2, 1951, 1980) = 1",
            "place(1, 1951, 1980) = 2", "place(3, 1951, 1980) = 3"));
        // A PLACE is the one behind the taking out: the next one on is a true move.
        edges.holds(13, sentence, World.of(0, 2, "event(1950, 6, 0, 1)", "place(0, 1950, 1980) = 1",
            "place(1, 1950, 1980) = 0", "event(1951, 6, 0, 1)", "place(0, 1951, 1980) = 1",
            "place(1, 1951, 1980) = 0"));
        // HUTS that are told later stand behind the others, ahead of all that MOVED.
        edges.holds(13, sentence, World.of(0, 2, "event(1950, 6, 0, 1)", "hut(1, NONE, 0) = 2",
            "place(2, 1950, 1980) = 2", "place(0, 1950, 1980) = 1", "event(1951, 6, 0, 2)", "place(0, 1951, 1980) = 2",
            "place(2, 1951, 1980) = 1"));
        edges.holds(13, "PLACE in the row IN a YEAR, as known.", World.of(0, 3, "event(2099, 6, 0, 2)",
            "place(0, 2098, 1980) = 0", "place(0, 2099, 1980) = 2", "place(0, 2099, 1979) = 0", "event(1900, 6, 0, 1)",
            "place(0, 1900, 1980) = 1"));
    }
}
