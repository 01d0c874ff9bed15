/** Promises 6, 7, 9 and 14: years, person, event, about. */
final class PeopleEdges {
    private static final String KIND_NONE = "IllegalArgumentException: KIND is none (or SALE), or a, b are one PERSON;";
    private static final String BY_KIND =
        "IndexOutOfBoundsException: also of a, b by the KIND (DIED: b may be anything);";
    private static final String[] NO_YEARS = {"1899", "2100", "0", "-1", "LEAST", "MOST"};

    private PeopleEdges() {
    }

    static void tell(Edges edges) {
        years(edges);
        personNumbers(edges);
        manyPersons(edges);
        eventYears(edges);
        eventKinds(edges);
        eventPersons(edges);
        eventHuts(edges);
        manyEvents(edges);
        eventOrder(edges);
        aboutNumbers(edges);
        aboutNothing(edges);
        inYears(edges);
        known(edges);
        deaths(edges);
        spouses(edges);
        families(edges);
    }

    private static void years(Edges edges) {
        String sentence = "IllegalArgumentException: below 0, or behind 2099.";
        edges.holds(6, sentence, "years(0) = 1980", "years(119) = 2099", "years(0) = 2099",
            "years(1) throws IllegalArgument", "years(-1) throws IllegalArgument", "count(3) = 2099");
        edges.holds(6, sentence, "years(120) throws IllegalArgument", "years(-1) throws IllegalArgument",
            "years(LEAST) throws IllegalArgument", "years(MOST) throws IllegalArgument",
            "years(-1980) throws IllegalArgument", "count(3) = 1980", "years(118) = 2098",
            "years(2) throws IllegalArgument", "years(1) = 2099");
        // 1980 and this come to less than 0, or to 2099 again, if they run over.
        edges.holds(6, sentence, "years(2147481668) throws IllegalArgument", "years(2147483647) throws IllegalArgument",
            "years(2147481667) throws IllegalArgument");
        edges.holds(6, sentence, World.rich("years(117) throws IllegalArgument", "years(-1) throws IllegalArgument",
            "count(3) = 1983", "years(116) = 2099"));
    }

    private static void personNumbers(Edges edges) {
        edges.holds(7, Edges.YEARS, "person(1900, 5, true) = 0", "person(2099, 5, true) = 1",
            "person(1899, 5, true) throws IllegalArgument", "person(2100, 5, true) throws IllegalArgument",
            "person(LEAST, 5, true) throws IllegalArgument", "person(MOST, 5, true) throws IllegalArgument",
            "person(0, 5, true) throws IllegalArgument", "count(0) = 2");
        edges.holds(7, "LIMIT (0 to 9999: the most rent that they pay)", "person(1950, 0, true) = 0",
            "person(1950, 9999, true) = 1", "person(1950, -1, true) throws IllegalArgument",
            "person(1950, 10000, true) throws IllegalArgument", "person(1950, LEAST, true) throws IllegalArgument",
            "person(1950, MOST, true) throws IllegalArgument", "count(0) = 2");
        // What is paid at most: 0 and 9999 are kept as they are.
        edges.holds(7, "LIMIT (0 to 9999: the most rent that they pay)", "person(1950, 0, true) = 0",
            "person(1950, 9999, true) = 1", "hut(1, 0, 0) = 0", "hut(1, 1, 0) = 1", "read(1, 'add 0') = 1",
            "leaves(1980, 9) = 0", "read(1, 'add 1') = 1", "leaves(1980, 9) = 1", "read(1, 'add 1111') = 1",
            "leaves(1980, 9) = 1", "read(1, 'add 9999') = 1", "leaves(1980, 1) = 1", "leaves(1980, 2) = 3");
        edges.holds(7, "IllegalArgumentException: a number is none;",
            World.rich("person(1899, 0, false) throws IllegalArgument",
            "person(1950, 10000, false) throws IllegalArgument", "person(2100, -1, true) throws IllegalArgument",
            "count(0) = 5"));
        // LOCAL or not.
        edges.holds(7, "LOCAL or not.", "person(1950, 5, true) = 0", "person(1950, 5, false) = 1", "hut(1, 0, 0) = 0",
            "hut(1, 1, 0) = 1", "read(1, 'add 3 if local') = 1", "rent(0, 1980, 1980) = 3", "rent(1, 1980, 1980) = 0");
    }

    private static void manyPersons(Edges edges) {
        String sentence = "PERSONS (at most 12, numbered from 0 on)";
        edges.holds(7, sentence, "person(1950, 5, true) = 0", "10 times person(1950, 5, true) = 10",
            "person(1950, 5, true) = 11", "person(1950, 5, true) throws UnsupportedOperation", "count(0) = 12",
            "person(1900, 0, false) throws UnsupportedOperation", "about(11, 1980, 1980, 0) = 1",
            "about(12, 1980, 1980, 0) throws IndexOutOfBounds");
        edges.holds(7, Edges.FIRST_TOLD, "12 times person(1950, 5, true) = 11",
            "person(1899, 5, true) throws IllegalArgument", "person(1950, 10000, true) throws IllegalArgument",
            "person(1950, 5, true) throws UnsupportedOperation");
        edges.holds(7, "UnsupportedOperationException: there are 12.",
            World.rich("7 times person(1950, 5, true) = 11", "person(1950, 5, true) throws UnsupportedOperation"));
        // The 12th does all that the others do.
        edges.holds(7, sentence, World.of(12, 1, "event(1950, 1, 11, 10) = 1", "event(1951, 3, 11, 0) = 2",
            "event(1952, 5, 0, 11) = 3", "waits(11, 1960) = 1", "about(11, 1980, 1980, 1) = 10",
            "about(0, 1980, 1980, 4) = 11", "holder(0, 1980, 1980) = 11", "order(1, 1980, 1980) = 11",
            "event(1970, 0, 11, 0) = 4", "about(11, 1980, 1980, 0) = 0", "count(8) = 11"));
    }

    private static void eventYears(Edges edges) {
        for (int kind : new int[] {0, 1, 2, 3, 5, 6}) {
            String rest = ", " + kind + ", 0, 1)";
            edges.holds(9, Edges.YEARS, World.of(2, 2, "event(1900" + rest + " = 1",
                "event(2099" + rest + " = 2", "event(1899" + rest + " throws IndexOutOfBounds",
                "event(2100" + rest + " throws IndexOutOfBounds", "event(LEAST" + rest + " throws IndexOutOfBounds",
                "event(MOST" + rest + " throws IndexOutOfBounds", "count(2) = 2"));
        }
        // They come in just these YEARS.
        edges.holds(9, Edges.YEARS, World.of(2, 0, "event(2099, 0, 0, 0) = 1", "event(1900, 0, 1, 0) = 2",
            "about(0, 2098, 1980, 0) = 1", "about(0, 2099, 1980, 0) = 0", "about(1, 1900, 1980, 0) = 0"));
    }

    private static void eventKinds(Edges edges) {
        for (String kind : new String[] {"-1", "4", "7", "8", "LEAST", "MOST", "256", "32"}) {
            edges.holds(9, KIND_NONE, World.of(2, 2, "event(1950, " + kind + ", 0, 1) throws IllegalArgument",
                "event(1950, " + kind + ", 1, 1) throws IllegalArgument",
                // By no KIND a and b are nothing that there could not be.
                "event(1950, " + kind + ", 99, -99) throws IllegalArgument", "count(2) = 0"));
            edges.holds(9, KIND_NONE, World.rich("event(1950, " + kind + ", 0, 1) throws IllegalArgument"));
        }
        edges.holds(9, "An EVENT of a KIND but SALE: how many there are.", World.of(2, 2, "event(1950, 0, 0, 0) = 1",
            "event(1950, 1, 0, 1) = 2", "event(1950, 2, 0, 1) = 3", "event(1950, 3, 0, 1) = 4",
            "sale(1950, 0, 1, 5) = 5", "event(1950, 5, 0, 1) = 6", "event(1950, 6, 0, 1) = 7", "count(2) = 7"));
        for (int kind = 1; kind <= 3; kind++) {
            edges.holds(9, KIND_NONE, World.of(2, 0, "event(1950, " + kind + ", 0, 0) throws IllegalArgument",
                "event(1950, " + kind + ", 1, 1) throws IllegalArgument", "event(1950, " + kind + ", 1, 0) = 1"));
            edges.holds(9, KIND_NONE, World.rich("event(1950, " + kind + ", 4, 4) throws IllegalArgument"));
        }
        // One number, but a HUT and a PERSON, or a HUT and a PLACE; and one who DIED, where b is anything.
        edges.holds(9, KIND_NONE, World.of(2, 2, "event(1950, 5, 1, 1) = 1", "event(1950, 6, 1, 1) = 2",
            "event(1950, 0, 1, 1) = 3", "event(1950, 0, 0, 0) = 4"));
    }

    private static void eventPersons(Edges edges) {
        for (String none : new String[] {"2", "-1", "3", "12", "LEAST", "MOST"}) {
            edges.holds(9, BY_KIND, World.of(2, 5, "event(1950, 0, " + none + ", 0) throws IndexOutOfBounds",
                "event(1950, 1, " + none + ", 0) throws IndexOutOfBounds",
                "event(1950, 1, 0, " + none + ") throws IndexOutOfBounds",
                "event(1950, 2, " + none + ", 0) throws IndexOutOfBounds",
                "event(1950, 2, 0, " + none + ") throws IndexOutOfBounds",
                "event(1950, 3, " + none + ", 0) throws IndexOutOfBounds",
                "event(1950, 3, 0, " + none + ") throws IndexOutOfBounds",
                "event(1950, 5, 0, " + none + ") throws IndexOutOfBounds", "count(2) = 0"));
        }
        for (String any : new String[] {"2", "-1", "0", "1", "LEAST", "MOST"}) {
            edges.holds(9, BY_KIND, World.of(2, 0, "event(1950, 0, 1, " + any + ") = 1",
                "about(1, 1950, 1980, 0) = 0", "about(0, 1950, 1980, 0) = 1"));
        }
        edges.holds(9, BY_KIND, World.of(2, 1, "event(1950, 1, 1, 0) = 1", "event(1950, 2, 1, 0) = 2",
            "event(1950, 3, 1, 0) = 3", "event(1950, 5, 0, 1) = 4", "event(1950, 0, 1, 0) = 5"));
        edges.holds(9, BY_KIND, World.rich("event(1950, 0, 5, 0) throws IndexOutOfBounds",
            "event(1950, 1, 5, 0) throws IndexOutOfBounds", "event(1950, 3, 0, -1) throws IndexOutOfBounds"));
    }

    private static void eventHuts(Edges edges) {
        for (String none : new String[] {"3", "-1", "4", "10", "LEAST", "MOST"}) {
            edges.holds(9, BY_KIND, World.of(5, 3, "event(1950, 5, " + none + ", 0) throws IndexOutOfBounds",
                "event(1950, 6, " + none + ", 0) throws IndexOutOfBounds",
                "event(1950, 6, 0, " + none + ") throws IndexOutOfBounds", "count(2) = 0"));
        }
        edges.holds(9, "(0 to HUTS less 1)", World.of(0, 3, "event(1950, 6, 2, 0) = 1", "event(1951, 6, 2, 2) = 2",
            "place(2, 1950, 1980) = 0", "place(2, 1951, 1980) = 2", "event(1952, 6, 2, 3) throws IndexOutOfBounds",
            "hut(1, NONE, 0) = 3", "event(1952, 6, 2, 3) = 3", "place(2, 1952, 1980) = 3",
            "event(1952, 6, 2, 4) throws IndexOutOfBounds"));
        edges.holds(9, "(0 to HUTS less 1)", World.of(0, 1, "event(1950, 6, 0, 0) = 1",
            "event(1950, 6, 0, 1) throws IndexOutOfBounds", "place(0, 1950, 1980) = 0"));
        edges.holds(9, "(0 to HUTS less 1)", World.of(0, 10, "event(1950, 6, 0, 9) = 1", "place(0, 1950, 1980) = 9",
            "place(9, 1950, 1980) = 8", "event(1950, 6, 0, 10) throws IndexOutOfBounds"));
        edges.holds(9, BY_KIND, World.rich("event(1950, 5, 3, 0) throws IndexOutOfBounds",
            "event(1950, 5, 0, 5) throws IndexOutOfBounds", "event(1950, 6, 0, 3) throws IndexOutOfBounds"));
    }

    private static void manyEvents(Edges edges) {
        String sentence = "EVENTS (at most 40)";
        edges.holds(9, sentence, World.of(2, 1, "39 times event(1950, 1, 0, 1) = 39", "event(1951, 0, 0, 0) = 40",
            "event(1950, 1, 0, 1) throws UnsupportedOperation", "sale(1950, 0, 1, 5) throws UnsupportedOperation",
            "event(1900, 0, 1, 0) throws UnsupportedOperation", "count(2) = 40", "about(0, 1951, 1980, 0) = 0",
            "about(1, 2099, 1980, 0) = 1"));
        // SALES are EVENTS: they count with the others.
        edges.holds(9, sentence, World.of(2, 1, "20 times event(1950, 1, 0, 1) = 20",
            "20 times sale(1950, 0, 1, 5) = 40", "event(1950, 1, 0, 1) throws UnsupportedOperation",
            "sale(1950, 0, 1, 5) throws UnsupportedOperation"));
        edges.holds(9, Edges.FIRST_TOLD, World.of(2, 1, "40 times event(1950, 1, 0, 1) = 40",
            "event(2100, 9, 9, 9) throws IndexOutOfBounds", "event(1950, 1, 0, 2) throws IndexOutOfBounds",
            "event(1950, 1, 0, 0) throws IllegalArgument", "event(1950, 7, 0, 1) throws IllegalArgument",
            "event(1950, 4, 0, 1) throws IllegalArgument", "event(1950, 6, 0, 1) throws IndexOutOfBounds",
            "event(1950, 6, 0, 0) throws UnsupportedOperation", "event(1950, 0, 0, 99) throws UnsupportedOperation"));
        edges.holds(9, "UnsupportedOperationException: there are 40.",
            World.rich("32 times event(1950, 6, 0, 0) = 40", "event(1950, 6, 0, 0) throws UnsupportedOperation",
                "event(1899, 6, 0, 0) throws IndexOutOfBounds"));
    }

    private static void eventOrder(Edges edges) {
        for (String year : NO_YEARS) {
            edges.holds(9, Edges.FIRST_TOLD, World.of(2, 2, "event(" + year + ", 9, 0, 1) throws IndexOutOfBounds",
                "event(" + year + ", 4, 0, 1) throws IndexOutOfBounds",
                "event(" + year + ", 1, 1, 1) throws IndexOutOfBounds"));
        }
        edges.holds(9, Edges.FIRST_TOLD, World.of(2, 2, "event(1950, 1, 2, 2) throws IndexOutOfBounds",
            "event(1950, 2, -1, -1) throws IndexOutOfBounds", "event(1950, 3, 9, 9) throws IndexOutOfBounds"));
    }

    private static void aboutNumbers(Edges edges) {
        String[] asks = {"about(2, 1980, 1980, 0)", "about(-1, 1980, 1980, 0)", "about(LEAST, 1980, 1980, 0)",
            "about(MOST, 1980, 1980, 0)", "about(0, 1899, 1980, 0)", "about(0, 2100, 1980, 0)",
            "about(0, LEAST, 1980, 0)", "about(0, MOST, 1980, 0)", "about(0, 1980, 1899, 0)",
            "about(0, 1980, 2100, 0)", "about(0, 1980, LEAST, 0)", "about(0, 1980, MOST, 0)",
            "about(2, 1980, 1980, 7)", "about(0, 1899, 1980, 7)", "about(0, 1980, 2100, -1)"};
        for (String ask : asks) {
            edges.holds(14, Edges.NO_SUCH,
                World.of(2, 0, ask + " throws IndexOutOfBounds"));
        }
        for (String what : new String[] {"7", "-1", "8", "LEAST", "MOST"}) {
            edges.holds(14, "NoSuchElementException: another what.",
                World.of(2, 0, "about(1, 1900, 2099, " + what + ") throws NoSuchElement",
                    "about(0, 2099, 1900, " + what + ") throws NoSuchElement"));
        }
        edges.holds(14, "NoSuchElementException: another what.",
            World.rich("about(0, 1980, 1980, 7) throws NoSuchElement",
            "about(5, 1980, 1980, 7) throws IndexOutOfBounds"));
        edges.holds(14, Edges.YEARS, World.of(2, 0, "about(0, 1900, 1900, 0) = 1",
            "about(1, 2099, 2099, 0) = 1", "about(1, 1900, 2099, 0) = 1", "about(1, 2099, 1900, 0) = 1"));
    }

    private static void aboutNothing(Edges edges) {
        edges.holds(14, "(NONE without for 1, 3 to 5)", World.of(1, 1, "about(0, 1980, 1980, 0) = 1",
            "about(0, 1980, 1980, 1) = -1", "about(0, 1980, 1980, 2) = 0", "about(0, 1980, 1980, 3) = -1",
            "about(0, 1980, 1980, 4) = -1", "about(0, 1980, 1980, 5) = -1", "about(0, 1980, 1980, 6) = 0"));
        // All others have DIED: as if there were none.
        edges.holds(14, "(NONE without for 1, 3 to 5)", World.of(5, 0, "event(1950, 1, 0, 1)", "event(1950, 3, 0, 2)",
            "event(1950, 3, 3, 0)", "event(1950, 3, 3, 4)", "about(0, 1980, 1980, 1) = 1",
            "about(0, 1980, 1980, 2) = 1", "about(0, 1980, 1980, 3) = 2", "about(0, 1980, 1980, 4) = 3",
            "about(0, 1980, 1980, 5) = 4", "event(1960, 0, 1, 0)", "event(1960, 0, 2, 0)", "event(1960, 0, 3, 0)",
            "event(1960, 0, 4, 0)", "about(0, 1960, 1980, 1) = -1", "about(0, 1960, 1980, 2) = 0",
            "about(0, 1960, 1980, 3) = -1", "about(0, 1960, 1980, 4) = -1", "about(0, 1960, 1980, 5) = -1",
            "about(0, 1959, 1980, 5) = 4"));
        // HUTS that it holds, as bits: the first and the tenth.
        edges.holds(14, "6 HUTS that it holds, as bits", World.of(2, 9, "hut(1, 1, 0) = 9",
            "about(1, 1980, 1980, 6) = 512", "event(1950, 5, 0, 1) = 1", "about(1, 1980, 1980, 6) = 513",
            "about(0, 1980, 1980, 6) = 0"));
    }

    private static void inYears(Edges edges) {
        String sentence = "IN a YEAR: after all EVENTS of it and before.";
        edges.holds(14, sentence, World.of(2, 0, "event(1950, 1, 0, 1) = 1", "about(0, 1949, 1980, 1) = -1",
            "about(0, 1950, 1980, 1) = 1", "about(0, 1951, 1980, 1) = 1", "event(1950, 2, 0, 1) = 2",
            "about(0, 1950, 1980, 1) = -1"));
        edges.holds(14, sentence, World.of(2, 0, "event(1900, 0, 0, 0) = 1", "about(0, 1900, 1980, 0) = 0",
            "event(2099, 0, 1, 0) = 2", "about(1, 2098, 1980, 0) = 1", "about(1, 2099, 1980, 0) = 0"));
        String order = "they go by their YEARS, of one YEAR as they were told.";
        edges.holds(14, order, World.of(2, 0, "event(1950, 2, 0, 1)", "event(1950, 1, 0, 1)",
            "about(0, 1950, 1980, 1) = 1"));
        edges.holds(14, order, World.of(2, 0, "event(1950, 1, 0, 1)", "event(1950, 2, 0, 1)",
            "about(0, 1950, 1980, 1) = -1"));
        edges.holds(14, order, World.of(2, 0, "event(1951, 2, 0, 1)", "event(1950, 1, 0, 1)",
            "about(0, 1950, 1980, 1) = 1", "about(0, 1951, 1980, 1) = -1"));
        // Told late, of one YEAR: behind those that were told before, ahead of those of later YEARS.
        edges.holds(14, order, World.of(3, 0, "event(1951, 1, 0, 2)", "event(1950, 1, 0, 1)", "years(5)",
            "event(1950, 2, 0, 1)", "about(0, 1950, 1984, 1) = 1", "about(0, 1950, 1985, 1) = -1",
            "about(0, 1951, 1985, 1) = 2"));
    }

    private static void known(Edges edges) {
        String sentence = "As known in a YEAR: EVENTS told in that YEAR or before;";
        edges.holds(14, sentence, World.of(2, 0, "event(1950, 1, 0, 1)", "about(0, 1980, 1979, 1) = -1",
            "about(0, 1980, 1980, 1) = 1", "about(0, 1980, 1900, 1) = -1", "about(0, 1980, 2099, 1) = 1"));
        edges.holds(14, "what is told is known from TODAY on.", World.of(2, 0, "years(119) = 2099",
            "event(1900, 0, 0, 0) = 1", "about(0, 2099, 2098, 0) = 1", "about(0, 1900, 2099, 0) = 0"));
        edges.holds(14, "what is told is known from TODAY on.", World.of(3, 0, "event(1950, 1, 0, 1)", "years(1)",
            "event(1960, 1, 0, 2)", "years(1)", "event(1955, 0, 1, 0)", "about(0, 1955, 1980, 1) = 1",
            "about(0, 1955, 1981, 1) = 1", "about(0, 1955, 1982, 1) = -1", "about(0, 1960, 1980, 1) = 1",
            "about(0, 1960, 1981, 1) = 2"));
        // A PERSON is not told in a YEAR: one is asked for as known at any time.
        edges.holds(14, sentence, "years(50) = 2030", "person(2020, 0, true) = 0", "about(0, 1900, 1900, 0) = 1");
    }

    private static void deaths(Edges edges) {
        String sentence = "(One DIES once;";
        edges.holds(14, sentence, World.of(2, 0, "hut(1, 0, 0) = 0", "event(1950, 0, 0, 0) = 1",
            "event(1960, 0, 0, 0) = 2", "event(1955, 5, 0, 1) = 3", "about(0, 1949, 1980, 0) = 1",
            "about(0, 1955, 1980, 0) = 0", "about(0, 1960, 1980, 0) = 0", "count(8) = 1",
            "holder(0, 1960, 1980) = 1", "event(1940, 0, 0, 0) = 4", "about(0, 1940, 1980, 0) = 0",
            "about(0, 1939, 1980, 0) = 1", "count(8) = 1", "count(2) = 4"));
        String same = "what one who DIED does in other EVENTS goes all the same, unless it says otherwise.)";
        edges.holds(14, same, World.of(4, 0, "event(1950, 0, 0, 0)", "event(1951, 1, 0, 1)", "event(1951, 3, 0, 2)",
            "event(1951, 3, 3, 0)", "event(1951, 3, 3, 1)", "about(0, 1951, 1980, 1) = 1",
            "about(1, 1951, 1980, 1) = -1", "about(0, 1951, 1980, 2) = 1", "about(0, 1951, 1980, 3) = 2",
            "about(2, 1951, 1980, 4) = -1", "about(0, 1951, 1980, 4) = 3", "about(0, 1951, 1980, 5) = 1",
            "about(1, 1951, 1980, 5) = -1", "about(3, 1951, 1980, 2) = 1", "event(1952, 2, 1, 0)",
            "about(0, 1952, 1980, 1) = -1"));
        edges.holds(14, "LIVING: nobody known to have DIED.", "person(2050, 0, true) = 0",
            "about(0, 1900, 1980, 0) = 1", "event(1999, 0, 0, 0) = 1", "about(0, 1998, 1980, 0) = 1",
            "about(0, 1999, 1980, 0) = 0", "about(0, 1999, 1979, 0) = 1");
    }

    private static void spouses(Edges edges) {
        String sentence = "SPOUSE of a: with whom a WED latest; none, if these two PARTED behind that, or that one "
            + "does not live.";
        edges.holds(14, sentence, World.of(4, 0, "event(1950, 1, 0, 1)", "event(1951, 1, 2, 0)",
            "about(0, 1950, 1980, 1) = 1", "about(0, 1951, 1980, 1) = 2", "about(1, 1951, 1980, 1) = 0",
            "about(2, 1951, 1980, 1) = 0"));
        // These two alone: one who PARTED from another keeps the latest, and does not go back to the one before.
        edges.holds(14, sentence, World.of(4, 0, "event(1950, 1, 0, 1)", "event(1951, 1, 0, 2)", "event(1952, 2, 0, 1)",
            "about(0, 1952, 1980, 1) = 2", "about(1, 1952, 1980, 1) = -1", "event(1953, 2, 2, 0)",
            "about(0, 1953, 1980, 1) = -1", "about(2, 1953, 1980, 1) = -1", "event(1953, 2, 0, 3)",
            "about(0, 1953, 1980, 1) = -1"));
        // Behind that: one PARTED ahead of the wedding counts for nothing; a second wedding is a later one.
        edges.holds(14, sentence, World.of(4, 0, "event(1949, 2, 0, 1)", "event(1950, 1, 0, 1)",
            "about(0, 1950, 1980, 1) = 1", "event(1951, 2, 0, 1)", "event(1952, 1, 1, 0)",
            "about(0, 1951, 1980, 1) = -1", "about(0, 1952, 1980, 1) = 1", "about(1, 1952, 1980, 1) = 0"));
        // One who does not live: the one before is not the SPOUSE again.
        edges.holds(14, sentence, World.of(4, 0, "event(1950, 1, 0, 1)", "event(1951, 1, 0, 2)", "event(1952, 0, 2, 0)",
            "about(0, 1951, 1980, 1) = 2", "about(0, 1952, 1980, 1) = -1", "about(2, 1952, 1980, 1) = 0"));
    }

    private static void families(Edges edges) {
        String eldest = "ELDEST: of several the first BORN, then the least number.";
        edges.holds(14, eldest, "person(1900, 0, true) = 0", "person(1931, 0, true) = 1", "person(1930, 0, true) = 2",
            "person(1930, 0, true) = 3", "event(1940, 3, 0, 3)", "about(0, 1980, 1980, 3) = 3", "event(1940, 3, 0, 1)",
            "about(0, 1980, 1980, 3) = 3", "event(1940, 3, 0, 2)", "about(0, 1980, 1980, 3) = 2",
            "about(0, 1980, 1980, 2) = 3", "event(1950, 0, 2, 0)", "about(0, 1980, 1980, 3) = 3",
            "about(0, 1980, 1980, 2) = 2", "event(1950, 0, 3, 0)", "about(0, 1980, 1980, 3) = 1");
        edges.holds(14, "CHILDREN of a: those that live;", World.of(2, 0, "event(1940, 3, 0, 1)",
            "event(1941, 3, 0, 1)", "about(0, 1941, 1980, 2) = 1", "event(1942, 0, 1, 0)",
            "about(0, 1941, 1980, 2) = 1", "about(0, 1942, 1980, 2) = 0"));
        edges.holds(14, "PARENT: the least number that lives.", World.of(4, 0, "event(1940, 3, 2, 0)",
            "event(1941, 3, 1, 0)", "event(1942, 3, 3, 0)", "about(0, 1940, 1980, 4) = 2",
            "about(0, 1942, 1980, 4) = 1", "event(1950, 0, 1, 0)", "about(0, 1950, 1980, 4) = 2",
            "event(1951, 0, 2, 0)", "about(0, 1951, 1980, 4) = 3", "event(1952, 0, 3, 0)",
            "about(0, 1952, 1980, 4) = -1"));
        String brother = "BROTHER: the ELDEST living other child of any parent of a (living or not).";
        edges.holds(14, brother, "person(1950, 0, true) = 0", "person(1940, 0, true) = 1", "person(1930, 0, true) = 2",
            "person(1900, 0, true) = 3", "person(1901, 0, true) = 4", "event(1960, 3, 3, 0)",
            "about(0, 1960, 1980, 5) = -1", "event(1960, 3, 3, 1)", "about(0, 1960, 1980, 5) = 1",
            "about(1, 1960, 1980, 5) = 0", "event(1960, 3, 4, 0)", "event(1960, 3, 4, 2)",
            "about(0, 1960, 1980, 5) = 2", "about(1, 1960, 1980, 5) = 0", "about(2, 1960, 1980, 5) = 0",
            "event(1961, 0, 3, 0)", "event(1961, 0, 4, 0)", "about(0, 1961, 1980, 5) = 2", "event(1962, 0, 2, 0)",
            "about(0, 1962, 1980, 5) = 1", "about(2, 1962, 1980, 5) = 0", "event(1963, 0, 1, 0)",
            "about(0, 1963, 1980, 5) = -1");
        // The parent may have any number: the first, the last.
        edges.holds(14, brother, World.of(12, 0, "event(1960, 3, 0, 1)", "event(1960, 3, 0, 2)", "event(1960, 3, 11, 3)",
            "event(1960, 3, 11, 10)", "about(1, 1960, 1980, 5) = 2", "about(2, 1960, 1980, 5) = 1",
            "about(3, 1960, 1980, 5) = 10", "about(10, 1960, 1980, 5) = 3", "about(2, 1960, 1980, 4) = 0",
            "about(10, 1960, 1980, 4) = 11", "about(0, 1960, 1980, 2) = 2", "about(11, 1960, 1980, 3) = 3"));
        // He is the ELDEST himself, but not his own BROTHER; of one BORN the least number.
        edges.holds(14, brother, World.of(4, 0, "event(1960, 3, 3, 0)", "event(1960, 3, 3, 2)", "event(1960, 3, 3, 1)",
            "about(0, 1960, 1980, 5) = 1", "about(1, 1960, 1980, 5) = 0", "about(2, 1960, 1980, 5) = 0"));
    }
}
