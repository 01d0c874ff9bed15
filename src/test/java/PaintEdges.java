/** Promises 36 to 39: photo, allowed, breaches, painted. */
final class PaintEdges {
    private static final String PAINTED =
        "PAINTED: how often a HUT was at least: as its PHOTOGRAPHS go by YEARS (of one YEAR as "
        + "told): how often the COLOUR is another one than before.";

    private PaintEdges() {
    }

    static void tell(Edges edges) {
        photoNumbers(edges);
        photoColours(edges);
        manyPhotos(edges);
        asks(edges);
        allowed(edges);
        allowedFacts(edges);
        breaches(edges);
        painted(edges);
    }

    private static void photoNumbers(Edges edges) {
        for (String none : new String[] {"2", "-1", "10", "LEAST", "MOST"}) {
            edges.holds(36, Edges.NO_SUCH, World.of(5, 2, "photo(" + none + ", 1980, 0) throws IndexOutOfBounds",
                "photo(" + none + ", 1980, 8) throws IndexOutOfBounds", "photo(" + none
                + ", 1899, -1) throws IndexOutOfBounds", "count(7) = 0"));
        }
        for (String year : new String[] {"1899", "2100", "LEAST", "MOST"}) {
            edges.holds(36, Edges.YEARS, World.of(0, 2, "photo(1, " + year + ", 0) throws IndexOutOfBounds",
                "photo(1, " + year + ", 8) throws IndexOutOfBounds", "count(7) = 0"));
            edges.holds(36, Edges.FIRST_TOLD, World.rich("photo(0, " + year + ", 8) throws IndexOutOfBounds",
                "photo(3, " + year + ", 0) throws IndexOutOfBounds", "count(7) = 4"));
        }
        edges.holds(36, Edges.YEARS, World.of(0, 2, "photo(0, 1900, 0) = 1", "photo(1, 2099, 7) = 2",
            "photo(0, 2099, 1) = 3", "painted(0) = 1", "painted(1) = 0", "count(7) = 3"));
    }

    private static void photoColours(Edges edges) {
        String sentence = "IllegalArgumentException: the COLOUR is none;";
        for (String none : new String[] {"-1", "8", "LEAST", "MOST", "256"}) {
            edges.holds(36, sentence, World.of(0, 1, "photo(0, 1980, " + none + ") throws IllegalArgument",
                "count(7) = 0"));
            edges.holds(36, sentence, World.rich("photo(1, 1980, " + none + ") throws IllegalArgument",
                "count(7) = 4"));
        }
        for (int colour = 0; colour <= 7; colour++) {
            edges.holds(36, "COLOUR: 0 to 7.", World.of(0, 1, "photo(0, 1980, " + colour + ") = 1", "breaches(0) = 0",
                "read(3, 'allow " + colour + "') = 1", "breaches(0) = 0", "read(3, 'allow " + (colour + 1) % 8
                + "') = 1", "breaches(0) = 1"));
        }
    }

    private static void manyPhotos(Edges edges) {
        edges.holds(36, "PHOTOGRAPHS (at most 20)", World.of(0, 2, "19 times photo(0, 1980, 1) = 19",
            "photo(1, 1970, 2) = 20", "photo(0, 1981, 2) throws UnsupportedOperation",
            "photo(1, 1900, 0) throws UnsupportedOperation", "count(7) = 20", "painted(0) = 0", "painted(1) = 0",
            "read(3, '') = 0", "breaches(0) = 19", "breaches(1) = 1"));
        edges.holds(36, Edges.FIRST_TOLD, World.of(0, 1, "20 times photo(0, 1980, 1) = 20",
            "photo(1, 1980, 8) throws IndexOutOfBounds", "photo(0, 1899, 8) throws IndexOutOfBounds",
            "photo(0, 1980, 8) throws IllegalArgument", "photo(0, 1980, 7) throws UnsupportedOperation"));
        edges.holds(36, "UnsupportedOperationException: there are 20.", World.rich("16 times photo(1, 1980, 1) = 20",
            "photo(0, 1900, 1) throws UnsupportedOperation"));
        // Twenty that are each another one than before.
        String[] twenty = new String[20];
        for (int i = 0; i < 20; i++) {
            twenty[i] = "photo(0, " + (1900 + i) + ", " + i % 2 + ") = " + (i + 1);
        }
        edges.holds(39, PAINTED, World.and(World.of(0, 1, twenty), "painted(0) = 19"));
    }

    private static void asks(Edges edges) {
        for (String none : new String[] {"2", "-1", "10", "LEAST", "MOST"}) {
            edges.holds(37, Edges.NO_SUCH, World.of(5, 2, "allowed(" + none + ", 1980) throws IndexOutOfBounds",
                "allowed(" + none + ", 1899) throws IndexOutOfBounds"));
            edges.holds(38, Edges.NO_SUCH, World.of(5, 2, "5 times photo(0, 1980, 1)", "breaches(" + none
                + ") throws IndexOutOfBounds"));
            edges.holds(39, Edges.NO_SUCH, World.of(5, 2, "5 times photo(0, 1980, 1)", "painted(" + none
                + ") throws IndexOutOfBounds"));
        }
        edges.holds(37, Edges.NO_SUCH, World.rich("allowed(3, 1980) throws IndexOutOfBounds",
            "allowed(0, 2100) throws IndexOutOfBounds"));
        edges.holds(38, Edges.NO_SUCH, World.rich("breaches(3) throws IndexOutOfBounds",
            "breaches(-1) throws IndexOutOfBounds"));
        edges.holds(39, Edges.NO_SUCH, World.rich("painted(3) throws IndexOutOfBounds",
            "painted(-1) throws IndexOutOfBounds"));
        for (String year : new String[] {"1899", "2100", "LEAST", "MOST"}) {
            edges.holds(37, Edges.YEARS, World.of(0, 2, "allowed(0, " + year + ") throws IndexOutOfBounds"));
        }
        edges.holds(37, Edges.YEARS, World.of(0, 2, "read(3, 'allow 0 if year < 1901;allow 7 if year > 2098') = 2",
            "allowed(1, 1900) = 1", "allowed(1, 2099) = 128", "allowed(1, 1901) = 0", "allowed(1, 2098) = 0"));
    }

    private static void allowed(Edges edges) {
        String sentence = "ALLOWED IN a YEAR: COLOURS of LINES of PAINT that hold (all without a text).";
        edges.holds(37, sentence, World.of(0, 1, "allowed(0, 1980) = 255", "allowed(0, 1900) = 255",
            "allowed(0, 2099) = 255", "read(3, '') = 0", "allowed(0, 1980) = 0", "read(3, 'allow 3 if 1>2') = 1",
            "allowed(0, 1980) = 0", "read(3, 'allow 3') = 1", "allowed(0, 1980) = 8",
            "read(3, 'allow 3;allow 3;allow 0;allow 7') = 4", "allowed(0, 1980) = 137"));
        edges.holds(37, sentence, World.of(0, 1,
            "read(3, 'allow 0;allow 1;allow 2;allow 3;allow 4;allow 5;allow 6;allow 7') = 8", "allowed(0, 1980) = 255",
            "read(3, 'allow 8') throws IllegalArgument", "allowed(0, 1980) = 255"));
    }

    private static void allowedFacts(Edges edges) {
        String sentence = "of PAINT: size, place, year.";
        edges.holds(37, sentence, World.of(0, 2,
            "read(3, 'allow 1 if place < 1;allow 2 if place > 0;allow 3 if size > 0 and size < 2') = 3",
            "allowed(0, 1980) = 10", "allowed(1, 1980) = 12", "event(1970, 6, 1, 0)", "allowed(0, 1969) = 10",
            "allowed(0, 1970) = 12", "allowed(1, 1970) = 10"));
        edges.holds(37, "ALLOWED, as bits of COLOURS, as known TODAY.", World.of(0, 2,
            "read(3, 'allow 1 if place > 0') = 1", "event(2099, 6, 0, 1)", "allowed(0, 2098) = 0",
            "allowed(0, 2099) = 2", "years(1)", "event(1900, 6, 0, 1)", "allowed(0, 1900) = 2"));
    }

    private static void breaches(Edges edges) {
        String sentence = "BREACHES: PHOTOGRAPHS of COLOURS that were not, as known now.";
        edges.holds(38, sentence, World.of(0, 2, "breaches(0) = 0", "photo(0, 1980, 0) = 1", "photo(0, 1980, 7) = 2",
            "breaches(0) = 0", "read(3, '') = 0", "breaches(0) = 2", "breaches(1) = 0", "read(3, 'allow 0') = 1",
            "breaches(0) = 1", "read(3, 'allow 7;allow 0') = 2", "breaches(0) = 0"));
        // Of the YEAR of the PHOTOGRAPH, and that YEAR alone.
        edges.holds(38, sentence, World.of(0, 1, "read(3, 'allow 1 if year < 1970') = 1", "photo(0, 1969, 1) = 1",
            "breaches(0) = 0", "photo(0, 1970, 1) = 2", "breaches(0) = 1", "photo(0, 1900, 1) = 3", "breaches(0) = 1",
            "photo(0, 2099, 1) = 4", "breaches(0) = 2"));
        // As known now: what is told later of that YEAR, of the row or by a text, counts.
        edges.holds(38, sentence, World.of(0, 2, "read(3, 'allow 1 if place < 1') = 1", "photo(0, 1970, 1) = 1",
            "breaches(0) = 0", "years(1)", "event(1970, 6, 0, 1)", "breaches(0) = 1", "event(1970, 6, 0, 0)",
            "breaches(0) = 0", "event(1969, 6, 0, 1)", "breaches(0) = 0", "event(1971, 6, 0, 1)", "breaches(0) = 0"));
        // One that is told twice is two.
        edges.holds(38, sentence, World.of(0, 1, "read(3, '') = 0", "2 times photo(0, 1970, 1) = 2",
            "breaches(0) = 2"));
    }

    private static void painted(Edges edges) {
        edges.holds(39, PAINTED, World.of(0, 2, "painted(0) = 0", "photo(0, 1970, 5) = 1", "painted(0) = 0",
            "photo(0, 1971, 5) = 2", "painted(0) = 0", "photo(0, 1972, 6) = 3", "painted(0) = 1",
            "photo(0, 1973, 5) = 4", "painted(0) = 2", "painted(1) = 0"));
        // By YEARS, not as told.
        edges.holds(39, PAINTED, World.of(0, 1, "photo(0, 1972, 1) = 1", "photo(0, 1970, 1) = 2",
            "photo(0, 1971, 2) = 3", "painted(0) = 2", "photo(0, 1900, 2) = 4", "painted(0) = 3",
            "photo(0, 2099, 1) = 5", "painted(0) = 3"));
        // Of one YEAR as told.
        edges.holds(39, PAINTED, World.of(0, 1, "photo(0, 1970, 1) = 1", "photo(0, 1970, 2) = 2",
            "photo(0, 1970, 1) = 3", "painted(0) = 2", "photo(0, 1970, 1) = 4", "painted(0) = 2"));
        edges.holds(39, PAINTED, World.of(0, 1, "photo(0, 1970, 1) = 1", "photo(0, 1970, 1) = 2",
            "photo(0, 1970, 2) = 3", "photo(0, 1969, 2) = 4", "painted(0) = 2", "photo(0, 1970, 3) = 5",
            "painted(0) = 3"));
        // Those of another HUT between do not count; nor does COLOUR 0 ahead of the first, nor what LOST says.
        edges.holds(39, PAINTED, World.of(0, 2, "photo(0, 1970, 1) = 1", "photo(1, 1971, 2) = 2",
            "photo(0, 1972, 1) = 3", "painted(0) = 0", "painted(1) = 0", "lost(1, 1, 5)", "painted(1) = 0",
            "photo(1, 1972, 0) = 4", "painted(1) = 1"));
    }
}
