/** Promises 22 and 23: toll, dodged. */
final class SaleEdges {
    private static final String TOLL =
        "TOLL: of all SALES known of a YEAR by which a HUT came to b: hundredths (0 to 100) "
        + "of the PRICE, rounded down, each.";
    private static final String DODGED =
        "DODGED: such SALES of any YEAR where the PRICE is below so many times the RENT IN "
        + "the YEAR before (0 ahead of 1900), and b was not KIN then of who held it.";
    private static final String KIN = "KIN: SPOUSE, CHILDREN, all parents, all other children of these.";

    private SaleEdges() {
    }

    static void tell(Edges edges) {
        tollNumbers(edges);
        tolls(edges);
        noSales(edges);
        tollKnown(edges);
        dodgedNumbers(edges);
        dodgedPrice(edges);
        dodgedYears(edges);
        noneDodged(edges);
        kin(edges);
        kinThen(edges);
    }

    private static void tollNumbers(Edges edges) {
        for (String year : new String[] {"1899", "2100", "LEAST", "MOST"}) {
            edges.holds(22, Edges.YEARS, World.of(1, 1, "toll(" + year + ", 5) throws IndexOutOfBounds"));
            edges.holds(22, Edges.FIRST_TOLD, World.rich("toll(" + year + ", 101) throws IndexOutOfBounds", "toll("
                + year + ", -1) throws IndexOutOfBounds"));
        }
        for (String none : new String[] {"-1", "101", "LEAST", "MOST"}) {
            edges.holds(22, "IllegalArgumentException: hundredths are none.",
                World.of(1, 1, "toll(1980, " + none + ") throws IllegalArgument"));
            edges.holds(22, "IllegalArgumentException: hundredths are none.",
                World.rich("toll(1950, " + none + ") throws IllegalArgument"));
        }
        edges.holds(22, TOLL, World.of(2, 0, "hut(1, 0, 0) = 0", "sale(1950, 0, 1, 9999)", "toll(1950, 0) = 0",
            "toll(1950, 1) = 99", "toll(1950, 99) = 9899", "toll(1950, 100) = 9999"));
        edges.holds(22, Edges.YEARS, World.of(2, 0, "hut(1, 0, 0) = 0", "sale(1900, 0, 1, 50)",
            "sale(2099, 0, 0, 70)", "toll(1900, 100) = 50", "toll(2099, 100) = 70", "toll(1901, 100) = 0",
            "toll(2098, 100) = 0"));
    }

    private static void tolls(Edges edges) {
        // Rounded down, each: 199 and 199 hundredths are 1 and 1.
        edges.holds(22, TOLL, World.of(2, 0, "hut(1, 0, 0) = 0", "hut(1, 0, 0) = 1", "sale(1950, 0, 1, 199)",
            "sale(1950, 1, 1, 199)", "toll(1950, 1) = 2", "toll(1950, 50) = 198", "toll(1950, 100) = 398"));
        edges.holds(22, TOLL, World.of(2, 0, "hut(1, 0, 0) = 0", "sale(1950, 0, 1, 99)", "toll(1950, 1) = 0",
            "toll(1951, 100) = 0", "toll(1949, 100) = 0"));
        edges.holds(22, TOLL, World.of(2, 0, "hut(1, 0, 0) = 0", "sale(1950, 0, 1, 100)", "toll(1950, 1) = 1"));
        edges.holds(22, TOLL, World.of(2, 0, "hut(1, 0, 0) = 0", "sale(1950, 0, 1, 0)", "toll(1950, 100) = 0"));
        // Forty SALES of the highest PRICE.
        String[] forty = new String[40];
        for (int i = 0; i < 40; i++) {
            forty[i] = "sale(1950, 0, " + (1 - i % 2) + ", 9999)";
        }
        edges.holds(22, TOLL, World.and(World.of(2, 0, "hut(1, 0, 0) = 0"), World.and(forty, "toll(1950, 100) = 399960",
            "toll(1950, 1) = 3960")));
    }

    private static void noSales(Edges edges) {
        String sentence = "by which a HUT came to b";
        edges.holds(22, sentence, World.of(3, 1, "sale(1950, 0, 1, 100)", "toll(1950, 100) = 0"));
        edges.holds(22, sentence, World.of(3, 0, "hut(1, 1, 0) = 0", "sale(1950, 0, 1, 100)", "toll(1950, 100) = 0"));
        edges.holds(22, sentence, World.of(3, 0, "hut(1, 0, 0) = 0", "event(1950, 0, 1, 0)", "sale(1950, 0, 1, 100)",
            "toll(1950, 100) = 0", "sale(1950, 0, 2, 50)", "toll(1950, 100) = 50"));
        edges.holds(22, sentence, World.of(3, 0, "hut(1, 0, 0) = 0", "sale(1950, 0, 1, 100)", "sale(1950, 0, 1, 100)",
            "toll(1950, 100) = 100", "sale(1950, 0, 0, 7)", "toll(1950, 100) = 107", "sale(1950, 0, 1, 3)",
            "toll(1950, 100) = 110"));
        // GIVEN is no SALE; and once the HOLDER has DIED, there is none from whom it could come.
        edges.holds(22, sentence, World.of(3, 1, "event(1950, 5, 0, 1)", "toll(1950, 100) = 0", "sale(1950, 0, 2, 9)",
            "toll(1950, 100) = 9", "event(1950, 0, 2, 0)", "toll(1950, 100) = 9", "sale(1950, 0, 1, 9)",
            "toll(1950, 100) = 9"));
    }

    private static void tollKnown(Edges edges) {
        edges.holds(22, "TOLL of a YEAR, as known TODAY.", World.of(3, 0, "hut(1, 0, 0) = 0", "sale(1950, 0, 1, 100)",
            "toll(1950, 100) = 100", "years(1)", "event(1940, 0, 1, 0)", "toll(1950, 100) = 0"));
        edges.holds(22, "TOLL of a YEAR, as known TODAY.", World.of(3, 0, "hut(1, 0, 0) = 0", "sale(1950, 0, 1, 100)",
            "sale(1940, 0, 1, 30)", "toll(1950, 100) = 0", "toll(1940, 100) = 30"));
    }

    private static void dodgedNumbers(Edges edges) {
        for (String none : new String[] {"0", "100", "-1", "LEAST", "MOST"}) {
            edges.holds(23, "IllegalArgumentException: so many times are not 1 to 99.",
                "dodged(" + none + ") throws IllegalArgument");
            edges.holds(23, "IllegalArgumentException: so many times are not 1 to 99.",
                World.rich("dodged(" + none + ") throws IllegalArgument"));
        }
        edges.holds(23, "IllegalArgumentException: so many times are not 1 to 99.", World.of(2, 0, "hut(1, 0, 0) = 0",
            "read(1, 'add 100') = 1", "sale(1950, 0, 1, 9899) = 1", "sale(1951, 0, 0, 99) = 2", "dodged(1) = 1",
            "dodged(2) = 1", "dodged(98) = 1", "dodged(99) = 2"));
    }

    private static void dodgedPrice(Edges edges) {
        edges.holds(23, DODGED, World.of(2, 0, "hut(1, 0, 0) = 0", "read(1, 'add 50') = 1", "sale(1950, 0, 1, 50) = 1",
            "dodged(1) = 0", "dodged(2) = 1"));
        edges.holds(23, DODGED, World.of(2, 0, "hut(1, 0, 0) = 0", "read(1, 'add 50') = 1", "sale(1950, 0, 1, 49) = 1",
            "dodged(1) = 1"));
        edges.holds(23, DODGED, World.of(2, 0, "hut(1, 0, 0) = 0", "read(1, 'add 50') = 1", "sale(1950, 0, 1, 51) = 1",
            "dodged(1) = 0"));
        edges.holds(23, DODGED, World.of(2, 0, "hut(1, 0, 0) = 0", "sale(1950, 0, 1, 0) = 1", "dodged(99) = 0",
            "read(1, 'less 50') = 1", "dodged(99) = 0", "read(1, 'add 1') = 1", "dodged(1) = 1"));
        // The highest RENT, 99 times: it does not run over.
        String[] rows = new String[99];
        for (int i = 0; i < 99; i++) {
            rows[i] = "dodged(" + (i + 1) + ") = 1";
        }
        edges.holds(23, DODGED, World.and(World.of(2, 0, "hut(1, 0, 0) = 0", "sale(2099, 0, 1, 9999) = 1",
            "read(1, 'add 9999*year" + ";add 9999*year".repeat(9) + "') = 10"), rows));
    }

    private static void dodgedYears(Edges edges) {
        edges.holds(23, DODGED, World.of(3, 0, "hut(1, 0, 0) = 0", "read(1, 'add 50') = 1", "sale(1900, 0, 1, 0) = 1",
            "dodged(99) = 0", "sale(1901, 0, 2, 0) = 2", "dodged(99) = 1"));
        edges.holds(23, DODGED, World.of(3, 0, "hut(1, 0, 0) = 0", "read(1, 'add 1') = 1", "sale(2099, 0, 1, 0) = 1",
            "dodged(1) = 1"));
        // IN the YEAR before, not in its own: by year, by held, by place, by local.
        edges.holds(23, DODGED, World.of(3, 0, "hut(1, 0, 0) = 0", "sale(1950, 0, 1, 0) = 1",
            "read(1, 'add 5 if year > 1949') = 1", "dodged(99) = 0", "read(1, 'add 5 if year < 1950') = 1",
            "dodged(1) = 1", "read(1, 'add 5 if held > 48') = 1", "dodged(1) = 1", "read(1, 'add 5 if held > 49') = 1",
            "dodged(99) = 0"));
        edges.holds(23, DODGED, World.of(3, 0, "hut(1, 0, 0) = 0", "hut(1, NONE, 0) = 1", "event(1950, 6, 0, 1)",
            "sale(1950, 0, 1, 0)", "read(1, 'add 5*place') = 1", "dodged(99) = 0", "event(1949, 6, 0, 1)",
            "dodged(1) = 1"));
        // All SALES of the YEARS before have come by then.
        edges.holds(23, DODGED, World.of(3, 0, "hut(1, 0, 0) = 0", "read(1, 'add 1*held') = 1", "sale(1950, 0, 1, 0)",
            "sale(1951, 0, 2, 0)", "dodged(99) = 1", "sale(1953, 0, 0, 0)", "dodged(99) = 2"));
    }

    private static void noneDodged(Edges edges) {
        edges.holds(23, "DODGED: such SALES", World.of(3, 1, "read(1, 'add 50') = 1", "sale(1950, 0, 1, 0)",
            "dodged(99) = 0", "event(1940, 5, 0, 1)", "dodged(99) = 0", "sale(1951, 0, 2, 0)", "dodged(99) = 1",
            "event(1945, 0, 2, 0)", "dodged(99) = 0"));
        edges.holds(23, "DODGED of all YEARS, as known TODAY: how many SALES.", World.of(3, 0, "hut(1, 0, 0) = 0",
            "read(1, 'add 50') = 1", "dodged(99) = 0", "sale(1950, 0, 1, 0)", "dodged(1) = 1", "years(1)",
            "event(1949, 1, 0, 1)", "dodged(1) = 0"));
        // Forty of them.
        String[] forty = new String[40];
        for (int i = 0; i < 40; i++) {
            forty[i] = "sale(1950, 0, " + (1 - i % 2) + ", 0)";
        }
        edges.holds(23, "DODGED of all YEARS, as known TODAY: how many SALES.", World.and(World.of(2, 0,
            "hut(1, 0, 0) = 0", "read(1, 'add 1') = 1"), World.and(forty, "dodged(1) = 40")));
    }

    private static void kin(Edges edges) {
        // 0 holds; 1 is sold to, and is in turn each kind of KIN.
        String[] sold = World.of(5, 0, "hut(1, 0, 0) = 0", "read(1, 'add 50') = 1", "sale(1950, 0, 1, 0)",
            "dodged(1) = 1");
        edges.holds(23, KIN, World.and(sold, "event(1940, 1, 1, 0)", "dodged(1) = 0", "event(1941, 2, 0, 1)",
            "dodged(1) = 1"));
        edges.holds(23, KIN, World.and(sold, "event(1940, 3, 0, 1)", "dodged(1) = 0"));
        edges.holds(23, KIN, World.and(sold, "event(1940, 3, 1, 0)", "dodged(1) = 0"));
        // All parents, not the least number alone; all other children, not the ELDEST alone.
        edges.holds(23, KIN, World.and(sold, "event(1940, 3, 1, 2)", "event(1940, 3, 2, 0)", "dodged(1) = 1",
            "event(1941, 3, 1, 0)", "dodged(1) = 0"));
        edges.holds(23, KIN, World.of(5, 0, "hut(1, 0, 0) = 0", "read(1, 'add 50') = 1", "sale(1950, 0, 4, 0)",
            "event(1940, 3, 3, 0)", "event(1940, 3, 3, 2)", "dodged(1) = 1", "event(1940, 3, 3, 4)", "dodged(1) = 0"));
        edges.holds(23, KIN, World.of(5, 0, "hut(1, 0, 0) = 0", "read(1, 'add 50') = 1", "sale(1950, 0, 4, 0)",
            "event(1940, 3, 2, 0)", "event(1940, 3, 4, 0)", "dodged(1) = 0"));
        edges.holds(23, KIN, World.of(5, 0, "hut(1, 0, 0) = 0", "read(1, 'add 50') = 1", "sale(1950, 0, 4, 0)",
            "event(1940, 3, 0, 2)", "event(1940, 3, 0, 4)", "dodged(1) = 0"));
        // A parent who has DIED: his other children are KIN all the same.
        edges.holds(23, KIN, World.and(sold, "event(1940, 3, 2, 0)", "event(1940, 3, 2, 1)", "event(1945, 0, 2, 0)",
            "dodged(1) = 0"));
        // Of who held it: not one's own KIN.
        edges.holds(23, KIN, World.and(sold, "event(1940, 1, 1, 2)", "event(1940, 3, 1, 3)", "dodged(1) = 1"));
        // The SPOUSE is the latest alone.
        edges.holds(23, KIN, World.and(sold, "event(1940, 1, 0, 1)", "event(1941, 1, 0, 2)", "dodged(1) = 1"));
    }

    private static void kinThen(Edges edges) {
        String[] sold = World.of(5, 0, "hut(1, 0, 0) = 0", "read(1, 'add 50') = 1", "sale(1950, 0, 1, 0)",
            "dodged(1) = 1");
        String sentence = "b was not KIN then of who held it.";
        edges.holds(23, sentence, World.and(sold, "event(1951, 1, 0, 1)", "dodged(1) = 1", "event(1949, 1, 0, 1)",
            "dodged(1) = 0"));
        edges.holds(23, sentence, World.and(sold, "event(1949, 1, 0, 1)", "event(1951, 2, 0, 1)", "dodged(1) = 0"));
        // Of that YEAR: told ahead of the SALE.
        edges.holds(23, sentence, World.of(2, 0, "hut(1, 0, 0) = 0", "read(1, 'add 50') = 1", "event(1950, 1, 0, 1)",
            "sale(1950, 0, 1, 0)", "dodged(1) = 0"));
        edges.holds(23, sentence, World.of(2, 0, "hut(1, 0, 0) = 0", "read(1, 'add 50') = 1", "event(1950, 2, 0, 1)",
            "sale(1950, 0, 1, 0)", "dodged(1) = 1", "event(1949, 1, 0, 1)", "dodged(1) = 1"));
    }
}
