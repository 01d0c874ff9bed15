/** Promises 27 to 31: line, storm, sea, level, flood. */
final class ShoreEdges {
    private static final String MOVED = "a HUT is moved just if the SEA is above its LINE.";
    private static final String ROWS =
        "By all STORMS known: the least and the greatest SEA of one, and LINE of a HUT, that "
        + "whole rows of LINES and SEAS have; none, if there are none such.";
    private static final String FLOOD = "FLOOD: for a SEA: HUTS that are moved SURE, that MAY be.";

    private ShoreEdges() {
    }

    static void tell(Edges edges) {
        lineNumbers(edges);
        lineHuts(edges);
        stormNumbers(edges);
        manyStorms(edges);
        asks(edges);
        firstLines(edges);
        moved(edges);
        noRows(edges);
        chains(edges);
        known(edges);
        floods(edges);
        floodNumbers(edges);
    }

    private static void lineNumbers(Edges edges) {
        String sentence = "IllegalArgumentException: not 0 to LOW to HIGH to 99.";
        String[] none = {"-1, 5", "0, 100", "5, 4", "99, 98", "100, 100", "99, 100", "-1, -1", "LEAST, 5", "5, MOST",
            "5, LEAST", "MOST, 5", "LEAST, MOST", "1, 0", "100, 99"};
        for (String wrong : none) {
            edges.holds(27, sentence, World.of(0, 1, "line(0, " + wrong + ") throws IllegalArgument",
                "level(0, 1980, false) = 0", "level(0, 1980, true) = 99"));
            edges.holds(27, sentence, World.rich("line(0, " + wrong + ") throws IllegalArgument"));
        }
        String range = "from LOW to HIGH (0 to 99; 0 to 99 at first).";
        for (String right : new String[] {"0, 0", "0, 99", "99, 99", "0, 1", "98, 99", "50, 50"}) {
            String[] parts = right.split(", ");
            edges.holds(27, range, World.of(0, 2, "line(1, " + right + ")", "level(1, 1980, false) = " + parts[0],
                "level(1, 1980, true) = " + parts[1], "level(0, 1980, false) = 0", "level(0, 1980, true) = 99"));
        }
        // A later LINE is in place of the one before, also if it is wider.
        edges.holds(27, range, World.of(0, 1, "line(0, 10, 20)", "line(0, 5, 30)", "level(0, 1980, false) = 5",
            "level(0, 1980, true) = 30", "line(0, 0, 99)", "level(0, 1980, false) = 0", "level(0, 1980, true) = 99"));
    }

    private static void lineHuts(Edges edges) {
        for (String none : new String[] {"2", "-1", "10", "LEAST", "MOST"}) {
            edges.holds(27, Edges.NO_SUCH, World.of(5, 2, "line(" + none + ", 0, 99) throws IndexOutOfBounds", "line("
                + none + ", 5, 4) throws IndexOutOfBounds", "line(" + none + ", -1, 100) throws IndexOutOfBounds"));
        }
        edges.holds(27, Edges.FIRST_TOLD, World.rich("line(3, 5, 4) throws IndexOutOfBounds",
            "line(3, 5, 6) throws IndexOutOfBounds"));
    }

    private static void stormNumbers(Edges edges) {
        for (String year : new String[] {"1899", "2100", "LEAST", "MOST"}) {
            edges.holds(28, Edges.YEARS, World.of(0, 2, "storm(" + year + ", 1) throws IndexOutOfBounds", "storm("
                + year + ", 4) throws IndexOutOfBounds", "storm(" + year + ", -1) throws IndexOutOfBounds",
                "count(5) = 0"));
            edges.holds(28, Edges.FIRST_TOLD, World.rich("storm(" + year + ", 8) throws IndexOutOfBounds"));
        }
        for (String none : new String[] {"4", "5", "7", "1024", "-1", "LEAST", "MOST", "-4"}) {
            edges.holds(28, "IllegalArgumentException: bits of no HUTS;", World.of(0, 2,
                "storm(1970, " + none + ") throws IllegalArgument", "count(5) = 0"));
        }
        edges.holds(28, "IllegalArgumentException: bits of no HUTS;",
            World.rich("storm(1970, 8) throws IllegalArgument", "storm(1970, -1) throws IllegalArgument",
            "count(5) = 2"));
        edges.holds(28, "IllegalArgumentException: bits of no HUTS;", "storm(1970, 1) throws IllegalArgument",
            "storm(1970, LEAST) throws IllegalArgument", "storm(1970, 0) = 0", "hut(1, NONE, 0) = 0",
            "storm(1970, 1) = 1", "storm(1970, 2) throws IllegalArgument");
        edges.holds(28, "IllegalArgumentException: bits of no HUTS;", World.of(0, 10, "storm(1970, 1023) = 0",
            "storm(1970, 1024) throws IllegalArgument", "storm(1970, 512) = 1",
            "storm(1970, 2047) throws IllegalArgument"));
        edges.holds(28, "A STORM: its number.", World.of(0, 2, "storm(1900, 0) = 0", "storm(2099, 3) = 1",
            "storm(1970, 3) = 2"));
    }

    private static void manyStorms(Edges edges) {
        edges.holds(28, "STORMS (at most 10)", World.of(0, 2, "storm(1970, 1) = 0", "8 times storm(1970, 1) = 8",
            "storm(1970, 3) = 9", "storm(1970, 0) throws UnsupportedOperation",
            "storm(1970, 1) throws UnsupportedOperation", "count(5) = 10", "sea(9, 1980, false) = 2",
            "sea(10, 1980, false) throws IndexOutOfBounds"));
        edges.holds(28, Edges.FIRST_TOLD, World.of(0, 2, "10 times storm(1970, 1) = 9",
            "storm(1899, 4) throws IndexOutOfBounds", "storm(1970, 4) throws IllegalArgument",
            "storm(1970, 1) throws UnsupportedOperation"));
        edges.holds(28, "UnsupportedOperationException: there are 10.", World.rich("8 times storm(1970, 1) = 9",
            "storm(1970, 2) throws UnsupportedOperation"));
    }

    private static void asks(Edges edges) {
        for (String most : new String[] {"true", "false"}) {
            for (String none : new String[] {"1", "-1", "10", "LEAST", "MOST"}) {
                edges.holds(29, Edges.NO_SUCH, World.of(5, 5, "storm(1970, 1) = 0", "sea(" + none + ", 1980, " + most
                    + ") throws IndexOutOfBounds"));
                edges.holds(30, Edges.NO_SUCH, World.of(5, 1, "5 times storm(1970, 1) = 4", "level(" + none + ", 1980, "
                    + most + ") throws IndexOutOfBounds"));
            }
            for (String year : new String[] {"1899", "2100", "LEAST", "MOST"}) {
                edges.holds(29, Edges.YEARS, World.rich("sea(0, " + year + ", " + most + ") throws IndexOutOfBounds"));
                edges.holds(30, Edges.YEARS, World.rich("level(0, " + year + ", " + most
                    + ") throws IndexOutOfBounds"));
                edges.holds(31, Edges.YEARS, World.rich("flood(50, " + year + ", " + most
                    + ") throws IndexOutOfBounds"));
            }
        }
        edges.holds(29, Edges.YEARS, World.of(0, 1, "storm(1970, 1) = 0", "sea(0, 1900, false) = 0",
            "sea(0, 1900, true) = 100", "sea(0, 2099, false) = 1", "sea(0, 2099, true) = 100"));
        edges.holds(30, Edges.YEARS, World.of(0, 1, "line(0, 99, 99)", "storm(1970, 0) = 0",
            "level(0, 1900, false) = 99", "level(0, 2099, true) = 99"));
    }

    private static void firstLines(Edges edges) {
        edges.holds(30, "(0 to 99; 0 to 99 at first)", World.of(0, 10, "level(0, 1980, false) = 0",
            "level(0, 1980, true) = 99", "level(9, 1980, false) = 0", "level(9, 1980, true) = 99"));
        // At first, whatever else the HUT is; and what is told of it later leaves the rest as it was.
        edges.holds(30, "(0 to 99; 0 to 99 at first)", "person(1950, 5, true) = 0", "hut(9, 0, 20) = 0",
            "level(0, 1980, false) = 0", "level(0, 1980, true) = 99", "plank(255, 0, 9) = 0", "rows() = 0",
            "line(0, 30, 40)", "lost(0, 3, 5)", "level(0, 1980, false) = 30", "level(0, 1980, true) = 40",
            "read(1, 'add 1*size') = 1", "rent(0, 1980, 1980) = 9", "read(1, 'add 1*weeks') = 1",
            "rent(0, 1980, 1980) = 20", "holder(0, 1980, 1980) = 0", "rows() = 1", "2 times plank(32, 0, 9) = 2",
            "rows() = 1", "plank(32, 0, 9) = 3", "rows() = 0");
        // A LINE is not told in a YEAR.
        edges.holds(30, "LINES: of each HUT how high it lies", World.of(0, 1, "line(0, 10, 20)",
            "level(0, 1900, false) = 10", "level(0, 1900, true) = 20", "level(0, 2099, true) = 20"));
    }

    private static void moved(Edges edges) {
        // Above: 1 at least for a LINE of 0, 100 for one of 99.
        edges.holds(29, "SEA of a STORM: 0 to 100: a HUT is moved just if the SEA is above its LINE.", World.of(0, 1,
            "storm(1970, 1) = 0", "storm(1971, 0) = 1", "sea(0, 1980, false) = 1", "sea(0, 1980, true) = 100",
            "sea(1, 1980, false) = 0", "sea(1, 1980, true) = 99", "line(0, 99, 99)", "sea(0, 1980, false) = 100",
            "sea(0, 1980, true) = 100", "sea(1, 1980, true) = 99", "line(0, 0, 0)", "sea(0, 1980, false) = 1",
            "sea(1, 1980, false) = 0", "sea(1, 1980, true) = 0"));
        edges.holds(29, "SEA of a STORM: 0 to 100", "storm(1970, 0) = 0", "sea(0, 1980, false) = 0",
            "sea(0, 1980, true) = 100");
        edges.holds(29, MOVED, World.of(0, 2, "line(0, 10, 20)", "line(1, 15, 30)", "storm(1970, 1) = 0",
            "sea(0, 1980, false) = 11", "sea(0, 1980, true) = 30", "storm(1971, 3) = 1", "sea(1, 1980, false) = 16",
            "sea(1, 1980, true) = 100", "storm(1972, 0) = 2", "sea(2, 1980, false) = 0", "sea(2, 1980, true) = 20"));
        edges.holds(30, MOVED, World.of(0, 2, "line(0, 10, 20)", "storm(1970, 1) = 0", "level(1, 1980, false) = 11",
            "level(1, 1980, true) = 99", "line(1, 0, 15)", "level(1, 1980, false) = 11", "level(1, 1980, true) = 15",
            "level(0, 1980, false) = 10", "level(0, 1980, true) = 14"));
        // Just one row of LINES and SEAS is left.
        edges.holds(30, MOVED, World.of(0, 2, "line(0, 14, 20)", "line(1, 10, 15)", "storm(1970, 1) = 0",
            "level(0, 1980, false) = 14", "level(0, 1980, true) = 14", "level(1, 1980, false) = 15",
            "level(1, 1980, true) = 15", "sea(0, 1980, false) = 15", "sea(0, 1980, true) = 15"));
        // HUTS that are told later were not moved.
        edges.holds(30, MOVED, World.of(0, 1, "line(0, 30, 40)", "storm(1970, 1) = 0", "hut(1, NONE, 0) = 1",
            "level(1, 1980, false) = 31", "sea(0, 1980, true) = 99"));
        // The LINE that is told later is the one that counts.
        edges.holds(29, MOVED, World.of(0, 1, "storm(1970, 1) = 0", "sea(0, 1980, false) = 1", "line(0, 40, 50)",
            "sea(0, 1980, false) = 41"));
    }

    private static void noRows(Edges edges) {
        String[] rows = World.of(0, 2, "line(0, 15, 20)", "line(1, 10, 15)", "storm(1970, 1) = 0");
        edges.holds(29, ROWS, World.and(rows, "sea(0, 1980, false) = -1", "sea(0, 1980, true) = -1", "line(1, 10, 16)",
            "sea(0, 1980, false) = 16", "sea(0, 1980, true) = 16"));
        edges.holds(30, ROWS, World.and(rows, "level(0, 1980, false) = -1", "level(1, 1980, true) = -1",
            "line(0, 14, 20)", "level(0, 1980, false) = 14", "level(1, 1980, true) = 15"));
        edges.holds(31, "FLOOD: SURE (may false), or MAY, as bits; NONE.", World.and(rows, "flood(0, 1980, false) = -1",
            "flood(0, 1980, true) = -1", "flood(100, 1980, false) = -1", "flood(50, 1980, true) = -1",
            "flood(100, 1979, false) = 3", "line(1, 10, 16)", "flood(100, 1980, false) = 3"));
        // Each of two lies below the other: no row, however wide the LINES are; a third has none then, too.
        edges.holds(30, ROWS, World.of(0, 3, "storm(1970, 1) = 0", "storm(1971, 2) = 1", "level(0, 1980, false) = -1",
            "level(1, 1980, true) = -1", "level(2, 1980, false) = -1", "sea(0, 1980, true) = -1",
            "sea(1, 1980, false) = -1"));
        // Ten in a circle.
        String[] circle = new String[10];
        for (int i = 0; i < 10; i++) {
            circle[i] = "storm(1970, " + (1023 & ~(1 << i)) + ") = " + i;
        }
        edges.holds(29, ROWS, World.and(World.of(0, 10, circle), "sea(0, 1980, false) = -1",
            "level(9, 1980, true) = -1"));
        // A STORM that is not known then counts for nothing, but has none either where there is no row.
        edges.holds(29, ROWS, World.of(0, 2, "storm(1970, 1) = 0", "years(1)", "storm(1971, 2) = 1", "years(1)",
            "storm(1972, 0) = 2", "sea(0, 1980, false) = 1", "sea(2, 1980, true) = 100", "sea(0, 1981, false) = -1",
            "sea(2, 1981, true) = -1"));
    }

    private static void chains(Edges edges) {
        // STORM i moved the HUTS below i: the LINES go up one by one.
        String[] storms = new String[10];
        for (int i = 0; i < 10; i++) {
            storms[i] = "storm(1970, " + ((1 << i) - 1) + ") = " + i;
        }
        String[] told = World.of(0, 10, storms);
        edges.holds(30, ROWS, World.and(told, "level(0, 1980, false) = 0", "level(0, 1980, true) = 90",
            "level(9, 1980, false) = 9", "level(9, 1980, true) = 99", "level(4, 1980, false) = 4",
            "level(4, 1980, true) = 94"));
        edges.holds(29, ROWS, World.and(told, "sea(0, 1980, false) = 0", "sea(0, 1980, true) = 90",
            "sea(9, 1980, false) = 9", "sea(9, 1980, true) = 99"));
        // Told the other way round, what is told last must go through all of them.
        String[] back = new String[10];
        for (int i = 0; i < 10; i++) {
            back[i] = "storm(1970, " + (1023 & ~((1 << i) - 1)) + ") = " + i;
        }
        edges.holds(30, ROWS, World.and(World.of(0, 10, back), "line(9, 50, 99)", "level(0, 1980, false) = 59",
            "level(0, 1980, true) = 99", "level(9, 1980, true) = 90", "sea(9, 1980, false) = 51",
            "sea(0, 1980, false) = 60", "line(9, 91, 99)", "level(0, 1980, true) = -1", "line(9, 90, 99)",
            "level(0, 1980, true) = 99", "level(0, 1980, false) = 99", "sea(0, 1980, false) = 100"));
    }

    private static void known(Edges edges) {
        String sentence = "(Of one that is not known then, too: 0 or 100.)";
        edges.holds(29, sentence, World.of(0, 1, "line(0, 10, 20)", "storm(1970, 1) = 0", "sea(0, 1979, false) = 0",
            "sea(0, 1979, true) = 100", "sea(0, 1980, false) = 11", "years(5) = 1985", "storm(1900, 0) = 1",
            "sea(1, 1984, false) = 0", "sea(1, 1984, true) = 100", "sea(1, 1985, false) = 0", "sea(1, 1985, true) = 20",
            "sea(0, 1984, false) = 11"));
        edges.holds(30, "LINE of a HUT by all STORMS known; NONE.", World.of(0, 2, "line(0, 10, 20)",
            "storm(1970, 1) = 0", "level(1, 1979, false) = 0", "level(1, 1980, false) = 11", "years(1)",
            "storm(2099, 2) = 1", "level(1, 1980, false) = 11", "level(1, 1981, false) = -1"));
        edges.holds(31, FLOOD, World.of(0, 2, "line(0, 10, 20)", "storm(1970, 1) = 0", "flood(11, 1979, true) = 3",
            "flood(11, 1980, true) = 1"));
    }

    private static void floods(Edges edges) {
        edges.holds(31, FLOOD, World.of(0, 2, "line(0, 10, 20)", "flood(0, 1980, true) = 0",
            "flood(0, 1980, false) = 0", "flood(1, 1980, true) = 2", "flood(10, 1980, true) = 2",
            "flood(11, 1980, true) = 3", "flood(20, 1980, false) = 0", "flood(21, 1980, false) = 1",
            "flood(99, 1980, false) = 1", "flood(100, 1980, false) = 3", "flood(100, 1980, true) = 3"));
        edges.holds(31, FLOOD, World.of(0, 10, "line(9, 0, 0)", "line(0, 99, 99)", "flood(1, 1980, false) = 512",
            "flood(1, 1980, true) = 1022", "flood(99, 1980, true) = 1022", "flood(100, 1980, false) = 1023",
            "flood(0, 1980, true) = 0"));
        edges.holds(31, FLOOD, "flood(0, 1980, true) = 0", "flood(100, 1980, true) = 0", "flood(100, 1980, false) = 0");
    }

    private static void floodNumbers(Edges edges) {
        String sentence = "IllegalArgumentException: the SEA is not 0 to 100.";
        for (String none : new String[] {"-1", "101", "LEAST", "MOST"}) {
            edges.holds(31, sentence, World.of(0, 1, "flood(" + none + ", 1980, true) throws IllegalArgument", "flood("
                + none + ", 1980, false) throws IllegalArgument", "flood(" + none
                + ", 1899, true) throws IndexOutOfBounds", "flood(" + none + ", 2100, false) throws IndexOutOfBounds"));
            edges.holds(31, sentence, World.rich("flood(" + none + ", 1980, true) throws IllegalArgument"));
            // Also where there are no rows.
            edges.holds(31, sentence, World.of(0, 2, "storm(1970, 1) = 0", "storm(1971, 2) = 1",
                "flood(50, 1980, true) = -1", "flood(" + none + ", 1980, true) throws IllegalArgument"));
        }
    }
}
