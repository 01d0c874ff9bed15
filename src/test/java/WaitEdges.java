/** Promises 18 to 21: waits, order, freed, howLong. */
final class WaitEdges {
    private static final String ORDER = "ORDER IN a YEAR: those that live and wait since that YEAR or before, by what "
        + "WAITS tell (waited: YEARS since then), the most first, of several who waits longer, then the least number.";

    private WaitEdges() {
    }

    static void tell(Edges edges) {
        waitsNumbers(edges);
        waitsAlready(edges);
        manyWaiters(edges);
        orderNumbers(edges);
        orderYears(edges);
        orderKnown(edges);
        orderAlike(edges);
        orderByText(edges);
        freed(edges);
        howLongNumbers(edges);
        howLong(edges);
    }

    private static void waitsNumbers(Edges edges) {
        for (String nobody : new String[] {"2", "-1", "12", "LEAST", "MOST"}) {
            edges.holds(18, Edges.NO_SUCH, World.of(2, 5, "waits(" + nobody + ", 1980) throws IndexOutOfBounds",
                "waits(" + nobody + ", 1899) throws IndexOutOfBounds", "count(4) = 0"));
        }
        for (String year : new String[] {"1899", "2100", "LEAST", "MOST"}) {
            edges.holds(18, Edges.NO_SUCH, World.of(2, 0, "waits(1, " + year + ") throws IndexOutOfBounds",
                "count(4) = 0"));
            edges.holds(18, Edges.NO_SUCH, World.rich("waits(0, " + year + ") throws IndexOutOfBounds",
                "count(4) = 2"));
        }
        edges.holds(18, "WAITERS (at most 10): a PERSON, SINCE a YEAR (known from TODAY on).", World.of(2, 0,
            "waits(0, 1900) = 1", "waits(1, 2099) = 2", "count(4) = 2", "order(1, 1900, 1980) = 0",
            "order(2, 2098, 1980) = -1", "order(2, 2099, 1980) = 1"));
    }

    private static void waitsAlready(Edges edges) {
        edges.holds(18, "IllegalArgumentException: it waits already;", World.of(2, 0, "waits(1, 1970) = 1",
            "waits(1, 1970) throws IllegalArgument", "waits(1, 1900) throws IllegalArgument",
            "waits(1, 2099) throws IllegalArgument", "order(1, 1969, 1980) = -1", "order(1, 1970, 1980) = 1",
            "waits(0, 1970) = 2", "waits(0, 1970) throws IllegalArgument", "waits(1, 1970) throws IllegalArgument",
            "count(4) = 2"));
        // Also if one has DIED, or waits only in a YEAR to come.
        edges.holds(18, "IllegalArgumentException: it waits already;", World.of(1, 0, "waits(0, 2099) = 1",
            "event(1950, 0, 0, 0)", "waits(0, 1900) throws IllegalArgument"));
        edges.holds(18, "IllegalArgumentException: it waits already;",
            World.rich("waits(1, 1980) throws IllegalArgument", "waits(3, 1900) throws IllegalArgument"));
        edges.holds(18, Edges.FIRST_TOLD, World.of(1, 0, "waits(0, 1970) = 1", "waits(0, 1899) throws IndexOutOfBounds",
            "waits(0, 2100) throws IndexOutOfBounds"));
    }

    private static void manyWaiters(Edges edges) {
        String[] ten = new String[10];
        for (int i = 0; i < 10; i++) {
            ten[i] = "waits(" + i + ", " + (1960 + i) + ") = " + (i + 1);
        }
        String[] all = World.of(12, 0, ten);
        edges.holds(18, "WAITERS (at most 10)", World.and(all, "waits(10, 1970) throws UnsupportedOperation",
            "waits(11, 1900) throws UnsupportedOperation", "count(4) = 10", "order(10, 1980, 1980) = 9",
            "order(11, 1980, 1980) = -1", "order(1, 1980, 1980) = 0"));
        edges.holds(18, Edges.FIRST_TOLD, World.and(all, "waits(12, 1970) throws IndexOutOfBounds",
            "waits(10, 1899) throws IndexOutOfBounds", "waits(9, 1970) throws IllegalArgument",
            "waits(9, 2100) throws IndexOutOfBounds", "waits(10, 1970) throws UnsupportedOperation"));
        edges.holds(18, "UnsupportedOperationException: there are 10.", World.rich("7 times person(1950, 5, true) = 11",
            "waits(0, 1970) = 3", "waits(2, 1970) = 4", "waits(4, 1970) = 5", "waits(5, 1970) = 6",
            "waits(6, 1970) = 7", "waits(7, 1970) = 8", "waits(8, 1970) = 9", "waits(9, 1970) = 10",
            "waits(10, 1970) throws UnsupportedOperation"));
    }

    private static void orderNumbers(Edges edges) {
        for (String wrong : new String[] {"1, 1899, 1980", "1, 2100, 1980", "1, LEAST, 1980", "1, MOST, 1980",
            "1, 1980, 1899", "1, 1980, 2100", "1, 1980, LEAST", "1, 1980, MOST", "0, 1899, 1980", "99, 1980, 2100"}) {
            edges.holds(19, Edges.NO_SUCH, World.of(2, 0, "waits(0, 1970)", "order(" + wrong
                + ") throws IndexOutOfBounds"));
        }
        edges.holds(19, Edges.NO_SUCH, World.rich("order(1, 1899, 1980) throws IndexOutOfBounds",
            "order(1, 1980, 2100) throws IndexOutOfBounds"));
        edges.holds(19, "The k-th (from 1 on) in ORDER IN a YEAR, as known; NONE.", World.of(3, 0,
            "order(1, 1980, 1980) = -1", "waits(0, 1970)", "waits(1, 1971)", "order(1, 1980, 1980) = 0",
            "order(2, 1980, 1980) = 1", "order(3, 1980, 1980) = -1", "order(0, 1980, 1980) = -1",
            "order(-1, 1980, 1980) = -1", "order(LEAST, 1980, 1980) = -1", "order(MOST, 1980, 1980) = -1",
            "order(11, 1980, 1980) = -1"));
        edges.holds(19, Edges.YEARS, World.of(1, 0, "waits(0, 1900)", "order(1, 1900, 2099) = 0",
            "order(1, 2099, 2099) = 0", "order(1, 2099, 1900) = -1", "order(1, 1900, 1980) = 0"));
    }

    private static void orderYears(Edges edges) {
        edges.holds(19, ORDER, World.of(2, 0, "waits(0, 1970)", "order(1, 1969, 1980) = -1", "order(1, 1970, 1980) = 0",
            "order(1, 1971, 1980) = 0"));
        edges.holds(19, ORDER, World.of(2, 0, "waits(0, 1970)", "waits(1, 1971)", "event(1975, 0, 0, 0)",
            "order(1, 1974, 1980) = 0", "order(2, 1974, 1980) = 1", "order(1, 1975, 1980) = 1",
            "order(2, 1975, 1980) = -1", "event(1976, 0, 1, 0)", "order(1, 1976, 1980) = -1"));
    }

    private static void orderKnown(Edges edges) {
        edges.holds(19, "SINCE a YEAR (known from TODAY on).", World.of(2, 0, "waits(0, 1970)",
            "order(1, 1980, 1979) = -1", "order(1, 1980, 1980) = 0", "years(2) = 1982", "waits(1, 1960)",
            "order(1, 1980, 1981) = 0", "order(2, 1980, 1981) = -1", "order(1, 1980, 1982) = 1",
            "order(2, 1980, 1982) = 0", "years(2) = 1984", "event(1950, 0, 1, 0)", "order(1, 1980, 1983) = 1",
            "order(1, 1980, 1984) = 0", "order(2, 1980, 1984) = -1"));
    }

    private static void orderAlike(Edges edges) {
        // All alike by WAITS: who waits longer, then the least number, however they were told.
        edges.holds(19, ORDER, World.of(4, 0, "waits(3, 1970)", "waits(2, 1960)", "waits(1, 1970)", "waits(0, 1980)",
            "order(1, 1980, 1980) = 2", "order(2, 1980, 1980) = 1", "order(3, 1980, 1980) = 3",
            "order(4, 1980, 1980) = 0", "read(2, 'add 5') = 1", "order(1, 1980, 1980) = 2", "order(2, 1980, 1980) = 1",
            "order(3, 1980, 1980) = 3", "order(4, 1980, 1980) = 0", "order(5, 1980, 1980) = -1"));
    }

    private static void orderByText(Edges edges) {
        edges.holds(19, ORDER, World.of(3, 0, "waits(0, 1960)", "waits(1, 1970)", "waits(2, 1980)",
            "read(2, 'add 1*waited') = 1", "order(1, 1980, 1980) = 0", "order(3, 1980, 1980) = 2",
            "read(2, 'less 1*waited') = 1", "order(1, 1980, 1980) = 2", "order(2, 1980, 1980) = 1",
            "order(3, 1980, 1980) = 0"));
        // waited is 0 in the very YEAR; what WAITS tell may be below 0.
        edges.holds(19, ORDER, World.of(2, 0, "waits(0, 1960)", "waits(1, 1980)", "read(2, 'add 1 if waited < 1') = 1",
            "order(1, 1980, 1980) = 1", "order(1, 1981, 1980) = 0", "read(2, 'less 1 if waited > 20') = 1",
            "order(1, 1980, 1980) = 0", "order(1, 1981, 1980) = 1", "read(2, 'less 5;less 1*waited') = 2",
            "order(1, 1980, 1980) = 1"));
        edges.holds(19, "age: YEARS since BORN (0 at least)", "person(2050, 0, true) = 0", "person(1979, 0, true) = 1",
            "waits(0, 1960)", "waits(1, 1970)", "read(2, 'add 1*age') = 1", "order(1, 1980, 1980) = 1",
            "order(1, 1979, 1980) = 0", "read(2, 'less 1*age') = 1", "order(1, 1980, 1980) = 0",
            "order(1, 2099, 1980) = 0");
        edges.holds(19, "of WAITS: waited, age, children, year;", World.of(3, 0, "waits(0, 1960)", "waits(1, 1970)",
            "event(1975, 3, 1, 2)", "read(2, 'add 1*children') = 1", "order(1, 1974, 1980) = 0",
            "order(1, 1975, 1980) = 1", "event(1977, 0, 2, 0)", "order(1, 1977, 1980) = 0",
            "read(2, 'add 1*waited if year < 1980;less 1*waited " + "if year > 1979') = 2", "order(1, 1979, 1980) = 0",
            "order(1, 1980, 1980) = 1"));
        edges.holds(19, "of who waits;", "person(1950, 0, false) = 0", "person(1950, 0, true) = 1", "waits(0, 1960)",
            "waits(1, 1970)", "order(1, 1980, 1980) = 0", "read(2, 'add 1 if local') = 1", "order(1, 1980, 1980) = 1");
        // The greatest and the least that ten LINES can come to.
        String nine = ";add 9999*year".repeat(9);
        edges.holds(19, ORDER, World.of(2, 0, "waits(0, 1960)", "waits(1, 1970)",
            "read(2, 'add 9999*year if waited < 139" + nine + "') = 10", "order(1, 2099, 1980) = 1",
            "read(2, 'less 9999*year if waited > 138" + nine.replace("add", "less") + "') = 10",
            "order(1, 2099, 1980) = 1"));
    }

    private static void freed(Edges edges) {
        edges.holds(20, "FREED: HUTS that were freed in YEARS told (at most 20 numbers, 0 to 9)", "freed(0) = 1",
            "freed(9) = 2", "freed(-1) throws IllegalArgument", "freed(10) throws IllegalArgument",
            "freed(LEAST) throws IllegalArgument", "freed(MOST) throws IllegalArgument", "freed(5) = 3");
        edges.holds(20, "IllegalArgumentException: it is not 0 to 9;", World.rich("freed(-1) throws IllegalArgument",
            "freed(10) throws IllegalArgument", "freed(9) = 3"));
        edges.holds(20, "UnsupportedOperationException: there are 20.", "19 times freed(3) = 19", "freed(9) = 20",
            "freed(0) throws UnsupportedOperation", "freed(9) throws UnsupportedOperation", "howLong(10, false) = 2",
            "howLong(10, true) = 4");
        edges.holds(20, Edges.FIRST_TOLD, "20 times freed(3) = 20", "freed(10) throws IllegalArgument",
            "freed(-1) throws IllegalArgument", "freed(3) throws UnsupportedOperation");
        edges.holds(20, "UnsupportedOperationException: there are 20.", World.rich("18 times freed(3) = 20",
            "freed(0) throws UnsupportedOperation"));
    }

    private static void howLongNumbers(Edges edges) {
        for (String none : new String[] {"0", "11", "-1", "LEAST", "MOST"}) {
            edges.holds(21, "IllegalArgumentException: k is not 1 to 10.", "howLong(" + none
                + ", true) throws IllegalArgument", "howLong(" + none + ", false) throws IllegalArgument", "freed(5)",
                "howLong(" + none + ", true) throws IllegalArgument", "howLong(" + none
                + ", false) throws IllegalArgument");
            edges.holds(21, "IllegalArgumentException: k is not 1 to 10.",
                World.rich("howLong(" + none + ", true) throws IllegalArgument"));
        }
        edges.holds(21, "IllegalArgumentException: k is not 1 to 10.", "freed(1)", "howLong(1, true) = 1",
            "howLong(1, false) = 1", "howLong(10, true) = 10", "howLong(10, false) = 10");
    }

    private static void howLong(Edges edges) {
        String sentence = "k by the greatest number, by the least, rounded up; none, if that is 0, or none is told.";
        edges.holds(21, sentence, "howLong(1, false) = -1", "howLong(1, true) = -1", "howLong(10, false) = -1",
            "howLong(10, true) = -1");
        edges.holds(21, sentence, "freed(0)", "howLong(1, false) = -1", "howLong(1, true) = -1", "freed(9)",
            "howLong(1, false) = 1", "howLong(1, true) = -1", "howLong(9, false) = 1", "howLong(10, false) = 2");
        edges.holds(21, sentence, "freed(9)", "howLong(9, true) = 1", "freed(0)", "howLong(9, true) = -1",
            "howLong(9, false) = 1");
        edges.holds(21, sentence, "freed(5)", "freed(2)", "freed(3)", "howLong(10, false) = 2", "howLong(10, true) = 5",
            "howLong(5, false) = 1", "howLong(6, false) = 2", "howLong(1, true) = 1", "howLong(2, true) = 1",
            "howLong(3, true) = 2");
        // The first told and the last told may be the greatest and the least.
        edges.holds(21, sentence, "freed(2)", "freed(5)", "howLong(10, false) = 2", "howLong(10, true) = 5");
        edges.holds(21, sentence, "19 times freed(4)", "freed(8)", "howLong(9, false) = 2", "howLong(9, true) = 3");
    }
}
