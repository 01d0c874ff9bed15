/** Promises 15 to 17: rent, leaves, income. */
final class RentEdges {
    private static final String TIMES = "LEAVES, if all RENTS were so many times as high (1 to 9)";
    private static final String HIGHEST = "add 9999*year" + ";add 9999*year".repeat(9);
    private static final String LOWEST = "less 9999*year" + ";less 9999*year".repeat(9);

    private RentEdges() {
    }

    static void tell(Edges edges) {
        atLeast(edges);
        facts(edges);
        rentKnown(edges);
        times(edges);
        years(edges);
        leaves(edges);
        income(edges);
        incomeOfMany(edges);
    }

    private static void atLeast(Edges edges) {
        String sentence = "all add LINES of RENTS that hold less all less LINES, 0 at least (0 without a text).";
        edges.holds(15, sentence, World.of(0, 1, "rent(0, 1980, 1980) = 0", "read(1, 'less 1') = 1",
            "rent(0, 1980, 1980) = 0", "read(1, 'add 5;less 5') = 2", "rent(0, 1980, 1980) = 0",
            "read(1, 'add 5;less 4') = 2", "rent(0, 1980, 1980) = 1", "read(1, 'less 4;add 5') = 2",
            "rent(0, 1980, 1980) = 1", "read(1, 'less 6;add 5') = 2", "rent(0, 1980, 1980) = 0", "text(1) = 0",
            "rent(0, 1980, 1980) = 0"));
        // 0 at least is the whole, not each step.
        edges.holds(15, sentence, World.of(0, 1, "read(1, 'less 9;add 5;add 5') = 3", "rent(0, 1980, 1980) = 1",
            "read(1, 'less 9 if 1>2;add 5;add 5 if 1>2') = 3", "rent(0, 1980, 1980) = 5"));
        // The greatest and the least that ten LINES can come to.
        edges.holds(15, sentence, World.of(0, 1, "read(1, '" + HIGHEST + "') = 10", "rent(0, 2099, 1980) = 209879010",
            "rent(0, 1900, 1980) = 189981000", "read(1, '" + LOWEST + "') = 10", "rent(0, 2099, 1980) = 0"));
    }

    private static void facts(Edges edges) {
        edges.holds(15, "(0 without a HOLDER)", World.of(2, 1, "read(1, 'add 1*held;add 3 if held < 1') = 2",
            "rent(0, 1980, 1980) = 3", "event(1950, 5, 0, 1)", "rent(0, 1949, 1980) = 3", "rent(0, 1950, 1980) = 3",
            "rent(0, 1951, 1980) = 1", "event(1960, 0, 1, 0)", "rent(0, 1959, 1980) = 9", "rent(0, 1960, 1980) = 3",
            "rent(0, 1980, 1980) = 3"));
        edges.holds(15, "of the HOLDER (no, without one)", World.of(2, 1,
            "read(1, 'add 1 if local;add 2 if not local') = 2", "rent(0, 1980, 1980) = 2", "event(1950, 5, 0, 1)",
            "rent(0, 1950, 1980) = 1", "rent(0, 1949, 1980) = 2"));
        edges.holds(15, "of RENTS: size, place, year, weeks, held;", World.of(1, 9, "hut(9, 0, 20) = 9",
            "read(1, 'add 1*size') = 1", "rent(9, 1980, 1980) = 9", "rent(0, 1980, 1980) = 1",
            "read(1, 'add 1*place') = 1", "rent(9, 1980, 1980) = 9", "rent(0, 1980, 1980) = 0", "event(1970, 6, 9, 0)",
            "rent(9, 1970, 1980) = 0", "rent(0, 1970, 1980) = 1", "read(1, 'add 1*year') = 1",
            "rent(9, 1900, 1980) = 1900", "rent(9, 2099, 1980) = 2099", "read(1, 'add 1*weeks') = 1",
            "rent(9, 1980, 1980) = 20", "rent(0, 1980, 1980) = 0", "read(1, 'add 1*held') = 1",
            "rent(9, 1900, 1980) = 0", "rent(9, 2099, 1980) = 199"));
    }

    private static void rentKnown(Edges edges) {
        edges.holds(15, "RENT of a HUT IN a YEAR, as known", World.of(2, 0, "hut(1, 0, 0) = 0",
            "read(1, 'add 1*held') = 1", "sale(1970, 0, 1, 5)", "rent(0, 1969, 1980) = 69", "rent(0, 1970, 1980) = 0",
            "rent(0, 1970, 1979) = 70"));
    }

    private static void times(Edges edges) {
        for (String none : new String[] {"0", "10", "-1", "LEAST", "MOST"}) {
            edges.holds(16, TIMES, World.of(1, 1, "leaves(1980, " + none + ") throws IllegalArgument"));
            edges.holds(17, TIMES, World.of(1, 1, "income(1980, " + none + ") throws IllegalArgument"));
            edges.holds(16, "IllegalArgumentException: so many times are none.",
                World.rich("leaves(1980, " + none + ") throws IllegalArgument"));
            edges.holds(17, "IllegalArgumentException likewise.",
                World.rich("income(1980, " + none + ") throws IllegalArgument"));
            for (String year : new String[] {"1899", "2100"}) {
                edges.holds(16, Edges.FIRST_TOLD, World.of(1, 1, "leaves(" + year + ", " + none
                    + ") throws IndexOutOfBounds"));
                edges.holds(17, Edges.FIRST_TOLD, World.of(1, 1, "income(" + year + ", " + none
                    + ") throws IndexOutOfBounds"));
            }
        }
        edges.holds(16, TIMES, World.of(1, 0, "hut(1, 0, 0) = 0", "read(1, 'add 12') = 1", "leaves(1980, 1) = 0",
            "leaves(1980, 8) = 0", "leaves(1980, 9) = 1"));
        edges.holds(17, TIMES, World.of(1, 0, "hut(1, 0, 0) = 0", "read(1, 'add 12') = 1", "income(1980, 1) = 12",
            "income(1980, 8) = 96", "income(1980, 9) = 0"));
    }

    private static void years(Edges edges) {
        for (String year : new String[] {"1899", "2100", "LEAST", "MOST"}) {
            edges.holds(16, Edges.YEARS, World.of(1, 1, "leaves(" + year + ", 1) throws IndexOutOfBounds"));
            edges.holds(17, Edges.YEARS, World.of(1, 1, "income(" + year + ", 1) throws IndexOutOfBounds"));
        }
        edges.holds(16, Edges.YEARS, World.of(1, 0, "hut(1, 0, 0) = 0", "read(1, 'add 1*held') = 1",
            "leaves(1900, 1) = 0", "leaves(2000, 1) = 0", "leaves(2001, 1) = 1", "leaves(2099, 1) = 1"));
        edges.holds(17, Edges.YEARS, World.of(1, 0, "hut(1, 0, 0) = 0", "read(1, 'add 1*held') = 1",
            "income(1900, 1) = 0", "income(2000, 1) = 100", "income(2001, 1) = 0", "income(2099, 1) = 0"));
        // As known TODAY: not what will be told, but what was told of later YEARS.
        edges.holds(16, "LEAVES, as bits of HUTS, as known TODAY.", "person(1950, 0, true) = 0",
            "person(1950, 9, true) = 1", "hut(1, 0, 0) = 0", "read(1, 'add 9') = 1", "leaves(1980, 1) = 1",
            "sale(1970, 0, 1, 5)", "leaves(1969, 1) = 1", "leaves(1970, 1) = 0", "sale(2099, 0, 0, 5)",
            "leaves(2098, 1) = 0", "leaves(2099, 1) = 1");
        edges.holds(17, "INCOME, as known TODAY.", "person(1950, 0, true) = 0", "person(1950, 9, true) = 1",
            "hut(1, 0, 0) = 0", "read(1, 'add 9') = 1", "income(1980, 1) = 0", "sale(1970, 0, 1, 5)",
            "income(1969, 1) = 0", "income(1970, 1) = 9");
    }

    private static void leaves(Edges edges) {
        String sentence = "HUTS whose HOLDER's LIMIT is below that.";
        edges.holds(16, sentence, "person(1950, 30, true) = 0", "person(1950, 29, true) = 1",
            "person(1950, 31, true) = 2", "hut(1, 0, 0) = 0", "hut(1, 1, 0) = 1", "hut(1, 2, 0) = 2",
            "hut(1, NONE, 0) = 3", "read(1, 'add 30') = 1", "leaves(1980, 1) = 2", "leaves(1980, 2) = 7",
            "read(1, 'add 15') = 1", "leaves(1980, 1) = 0", "leaves(1980, 2) = 2", "read(1, 'add 0') = 1",
            "leaves(1980, 9) = 0");
        // The tenth, and nobody's HUTS.
        edges.holds(16, sentence, World.of(1, 9, "hut(1, 0, 0) = 9", "read(1, 'add 101') = 1",
            "leaves(1980, 1) = 512"));
        // So many times as high as it can be: it does not run over.
        edges.holds(16, TIMES, "person(1950, 9999, true) = 0", "hut(1, 0, 0) = 0", "read(1, '" + HIGHEST + "') = 10",
            "leaves(2099, 1) = 1", "leaves(2099, 9) = 1", "leaves(1900, 9) = 1", "income(2099, 9) = 0",
            "read(1, '" + LOWEST + "') = 10", "leaves(2099, 9) = 0", "income(2099, 9) = 0");
    }

    private static void income(Edges edges) {
        String sentence = "of HUTS by numbers: the RENT, if the HOLDER stays; else the first of those who WAIT (by the "
            + "order of WAITS) who was not taken yet and whose LIMIT is not below it takes it; else 0.";
        edges.holds(17, sentence, World.of(0, 3, "read(1, 'add 30') = 1", "income(1980, 1) = 0"));
        // Whose LIMIT is just it, and just below it.
        edges.holds(17, sentence, "person(1950, 30, true) = 0", "person(1950, 29, true) = 1", "hut(1, NONE, 0) = 0",
            "read(1, 'add 30') = 1", "waits(1, 1960)", "income(1980, 1) = 0", "waits(0, 1970)", "income(1980, 1) = 30",
            "income(1970, 1) = 30", "income(1969, 1) = 0", "income(1980, 2) = 0", "read(1, 'add 15') = 1",
            "income(1980, 2) = 30", "read(1, 'add 10') = 1", "income(1980, 3) = 30", "income(1980, 4) = 0");
        // Who was taken already takes no second one, also if that asks for nothing.
        edges.holds(17, sentence, "person(1950, 30, true) = 0", "hut(1, NONE, 0) = 0", "hut(1, NONE, 0) = 1",
            "read(1, 'add 30') = 1", "waits(0, 1960)", "income(1980, 1) = 30", "read(1, 'add 20*place') = 1",
            "income(1980, 1) = 0", "event(1970, 6, 0, 1)", "income(1980, 1) = 20");
        // The first in order takes the first HUT, though another would have done there.
        edges.holds(17, sentence, "person(1950, 90, true) = 0", "person(1950, 10, true) = 1", "hut(1, NONE, 0) = 0",
            "hut(9, NONE, 0) = 1", "read(1, 'add 10*size') = 1", "waits(0, 1960)", "waits(1, 1961)",
            "income(1980, 1) = 10", "read(2, 'less 1*waited') = 1", "income(1980, 1) = 100");
        // Who stays pays, and none who waits; one who leaves makes room.
        edges.holds(17, sentence, "person(1950, 10, true) = 0", "person(1950, 99, true) = 1", "hut(1, 0, 0) = 0",
            "read(1, 'add 10') = 1", "waits(1, 1960)", "income(1980, 1) = 10", "income(1980, 2) = 20",
            "income(1980, 9) = 90", "event(1975, 0, 1, 0)", "income(1974, 2) = 20", "income(1975, 2) = 0");
        // One who waits is known from TODAY on.
        edges.holds(17, sentence, "person(1950, 10, true) = 0", "hut(1, NONE, 0) = 0", "read(1, 'add 10') = 1",
            "waits(0, 2099)", "income(2098, 1) = 0", "income(2099, 1) = 10");
    }

    private static void incomeOfMany(Edges edges) {
        // Ten HUTS and ten who wait: all of them, and one more HUT than those who wait.
        String sentence = "who was not taken yet and whose LIMIT is not below it takes it; else 0.";
        String[] all = new String[10];
        for (int i = 0; i < 10; i++) {
            all[i] = "waits(" + i + ", 1960) = " + (i + 1);
        }
        edges.holds(17, sentence, World.and(World.of(10, 10, all), "read(1, 'add 100') = 1", "income(1980, 1) = 1000",
            "event(1979, 0, 9, 0)", "income(1979, 1) = 900", "income(1978, 1) = 1000"));
        String[] rich = new String[10];
        for (int i = 0; i < 10; i++) {
            rich[i] = "hut(1, 0, 0) = " + i;
        }
        edges.holds(17, sentence, World.and(World.and(new String[] {"person(1950, 9999, true) = 0"}, rich),
            "read(1, 'add 9999') = 1", "income(1980, 1) = 99990", "income(1980, 2) = 0", "leaves(1980, 2) = 1023"));
    }
}
