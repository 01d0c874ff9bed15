/** Promises 32 to 35: lost, plank, rows, whose. */
final class RoadEdges {
    private static final String ROWS =
        "ROWS: each PLANK to a HUT of one of its COLOURS so near (PLACES as told now), no HUT "
        + "more than it LOST: how many ROWS;";
    private static final String WHOSE = "WHOSE: HUTS that a PLANK is of in some.";

    private RoadEdges() {
    }

    static void tell(Edges edges) {
        lostNumbers(edges);
        lostHuts(edges);
        plankNumbers(edges);
        manyPlanks(edges);
        whoseNumbers(edges);
        noRows(edges);
        colours(edges);
        near(edges);
        losses(edges);
        most(edges);
        placesNow(edges);
        whose(edges);
    }

    private static void lostNumbers(Edges edges) {
        String planks = "LOST: of each HUT how many it has lost (0 to 4; 0 at first) and its COLOUR (0 at first).";
        for (String none : new String[] {"-1", "5", "LEAST", "MOST"}) {
            edges.holds(32, planks, World.of(0, 1, "lost(0, " + none + ", 0) throws IllegalArgument",
                "plank(1, 0, 9) = 0", "rows() = 0"));
            edges.holds(32, "IllegalArgumentException: a number is none.", World.rich("lost(0, " + none
                + ", 1) throws IllegalArgument", "lost(2, " + none + ", 1) throws IllegalArgument"));
        }
        for (String none : new String[] {"-1", "8", "LEAST", "MOST"}) {
            edges.holds(32, "COLOUR: 0 to 7.", World.of(0, 1, "lost(0, 1, " + none + ") throws IllegalArgument",
                "plank(255, 0, 9) = 0", "rows() = 0"));
            edges.holds(32, "IllegalArgumentException: a number is none.", World.rich("lost(0, 2, " + none
                + ") throws IllegalArgument", "lost(0, 5, " + none + ") throws IllegalArgument"));
        }
        // 0 at first: it has lost none; and its COLOUR is 0.
        edges.holds(32, planks, World.of(0, 1, "plank(255, 0, 9) = 0", "rows() = 0", "lost(0, 1, 0)", "rows() = 1",
            "lost(0, 0, 0)", "rows() = 0"));
        for (int planksLost = 0; planksLost <= 4; planksLost++) {
            edges.holds(32, planks, World.of(0, 1, "lost(0, " + planksLost + ", 0)",
                planksLost == 0 ? "rows() = 1" : planksLost + " times plank(1, 0, 9)", "rows() = 1", "plank(1, 0, 9)",
                "rows() = 0"));
        }
        for (int colour = 0; colour <= 7; colour++) {
            edges.holds(32, "COLOUR: 0 to 7.", World.of(0, 1, "lost(0, 1, " + colour + ")", "plank(" + (1 << colour)
                + ", 0, 9) = 0", "rows() = 1", "whose(0) = 1"));
            edges.holds(32, "COLOUR: 0 to 7.", World.of(0, 1, "lost(0, 1, " + colour + ")",
                "plank(" + (255 & ~(1 << colour)) + ", 0, 9) = 0", "rows() = 0", "whose(0) = 0"));
        }
        // A later call is in place of the one before.
        edges.holds(32, "LOST and COLOUR of a HUT.", World.of(0, 1, "plank(2, 0, 9) = 0", "lost(0, 4, 1)", "rows() = 1",
            "lost(0, 4, 2)", "rows() = 0", "lost(0, 1, 1)", "rows() = 1", "plank(2, 0, 9) = 1", "rows() = 0"));
    }

    private static void lostHuts(Edges edges) {
        for (String none : new String[] {"2", "-1", "10", "LEAST", "MOST"}) {
            edges.holds(32, Edges.NO_SUCH, World.of(5, 2, "lost(" + none + ", 1, 1) throws IndexOutOfBounds", "lost("
                + none + ", 5, 1) throws IndexOutOfBounds", "lost(" + none + ", 1, 8) throws IndexOutOfBounds"));
        }
        edges.holds(32, Edges.FIRST_TOLD, World.rich("lost(3, 5, 8) throws IndexOutOfBounds",
            "lost(3, 1, 1) throws IndexOutOfBounds"));
    }

    private static void plankNumbers(Edges edges) {
        String colours = "IllegalArgumentException: COLOURS are not bits of 0 to 7, some, or FAR is none;";
        for (String none : new String[] {"0", "256", "-1", "257", "511", "LEAST", "MOST"}) {
            edges.holds(33, colours, World.of(0, 1, "plank(" + none + ", 0, 0) throws IllegalArgument", "count(6) = 0",
                "rows() = 1"));
            edges.holds(33, colours, World.rich("plank(" + none + ", 9, 9) throws IllegalArgument", "count(6) = 2"));
        }
        for (String none : new String[] {"-1", "10", "LEAST", "MOST"}) {
            edges.holds(33, colours, World.of(0, 1, "plank(1, 0, " + none + ") throws IllegalArgument",
                "count(6) = 0"));
            edges.holds(33, colours, World.rich("plank(1, 9, " + none + ") throws IllegalArgument", "count(6) = 2"));
            edges.holds(33, "found at a PLACE (0 to 9)", World.of(0, 10, "plank(1, " + none
                + ", 0) throws IndexOutOfBounds", "plank(0, " + none + ", 0) throws IndexOutOfBounds", "plank(256, "
                + none + ", 10) throws IndexOutOfBounds", "plank(1, " + none + ", -1) throws IndexOutOfBounds",
                "count(6) = 0"));
            edges.holds(33, Edges.FIRST_TOLD, World.rich("plank(0, " + none + ", 10) throws IndexOutOfBounds"));
        }
        edges.holds(33, "A PLANK: its number.", World.of(0, 1, "plank(1, 0, 0) = 0", "plank(255, 9, 9) = 1",
            "plank(128, 0, 9) = 2", "plank(1, 9, 0) = 3", "count(6) = 4"));
        // A PLACE at which no HUT stands is one all the same.
        edges.holds(33, "found at a PLACE (0 to 9)", "plank(1, 9, 0) = 0", "plank(1, 0, 0) = 1", "rows() = 0");
    }

    private static void manyPlanks(Edges edges) {
        edges.holds(33, "PLANKS (at most 8)", World.of(0, 3, "7 times plank(1, 0, 9) = 6", "plank(255, 9, 9) = 7",
            "plank(1, 0, 0) throws UnsupportedOperation", "plank(255, 9, 9) throws UnsupportedOperation",
            "count(6) = 8", "rows() = 0", "whose(7) = 0", "whose(8) throws IndexOutOfBounds", "lost(0, 4, 0)",
            "lost(1, 4, 0)", "rows() = 70", "whose(7) = 3"));
        edges.holds(33, Edges.FIRST_TOLD, World.of(0, 1, "8 times plank(1, 0, 9) = 7",
            "plank(0, 10, 10) throws IndexOutOfBounds", "plank(0, 0, 0) throws IllegalArgument",
            "plank(1, 0, 10) throws IllegalArgument", "plank(1, 0, 0) throws UnsupportedOperation"));
        edges.holds(33, "UnsupportedOperationException: there are 8.", World.rich("6 times plank(1, 0, 9) = 7",
            "plank(1, 0, 0) throws UnsupportedOperation"));
    }

    private static void whoseNumbers(Edges edges) {
        for (String none : new String[] {"2", "-1", "8", "LEAST", "MOST"}) {
            edges.holds(35, Edges.NO_SUCH, World.of(5, 5, "2 times plank(1, 0, 9) = 1", "whose(" + none
                + ") throws IndexOutOfBounds"));
            edges.holds(35, Edges.NO_SUCH, World.rich("whose(" + none + ") throws IndexOutOfBounds"));
        }
        edges.holds(35, Edges.NO_SUCH, World.of(0, 5, "whose(0) throws IndexOutOfBounds", "plank(1, 0, 0) = 0",
            "whose(0) = 0", "whose(1) throws IndexOutOfBounds"));
    }

    private static void noRows(Edges edges) {
        // No PLANKS: the one row in which nothing is shared out; no HUTS, or none that LOST any: none.
        edges.holds(34, "How many ROWS there are.", "rows() = 1", "plank(255, 0, 9) = 0", "rows() = 0", "whose(0) = 0");
        edges.holds(34, "How many ROWS there are.", World.of(0, 10, "rows() = 1", "plank(255, 0, 9) = 0", "rows() = 0",
            "lost(9, 1, 7)", "rows() = 1"));
        edges.holds(34, "How many ROWS there are.", World.of(0, 10, "lost(0, 4, 0)", "rows() = 1"));
        // One PLANK of none: then there is no row, also for the others.
        edges.holds(34, ROWS, World.of(0, 2, "lost(0, 4, 0)", "lost(1, 4, 1)", "plank(1, 0, 9) = 0", "rows() = 1",
            "whose(0) = 1", "plank(4, 0, 9) = 1", "rows() = 0", "whose(0) = 0", "whose(1) = 0"));
    }

    private static void colours(Edges edges) {
        edges.holds(34, ROWS, World.of(0, 3, "lost(0, 1, 0)", "lost(1, 1, 3)", "lost(2, 1, 7)", "plank(129, 0, 9) = 0",
            "rows() = 2", "whose(0) = 5", "plank(255, 0, 9) = 1", "rows() = 4", "plank(8, 0, 9) = 2", "rows() = 2",
            "whose(2) = 2", "whose(1) = 5"));
    }

    private static void near(Edges edges) {
        String[] ten = new String[10];
        for (int i = 0; i < 10; i++) {
            ten[i] = "lost(" + i + ", 1, 0)";
        }
        String[] told = World.of(0, 10, ten);
        String far = "at most so FAR (0 to 9) from its HUT's.";
        edges.holds(34, far, World.and(told, "plank(1, 4, 0) = 0", "rows() = 1", "whose(0) = 16"));
        edges.holds(34, far, World.and(told, "plank(1, 0, 9) = 0", "rows() = 10", "whose(0) = 1023"));
        edges.holds(34, far, World.and(told, "plank(1, 9, 9) = 0", "rows() = 10", "whose(0) = 1023"));
        edges.holds(34, far, World.and(told, "plank(1, 9, 8) = 0", "rows() = 9", "whose(0) = 1022"));
        edges.holds(34, far, World.and(told, "plank(1, 0, 8) = 0", "rows() = 9", "whose(0) = 511"));
        edges.holds(34, far, World.and(told, "plank(1, 4, 1) = 0", "rows() = 3", "whose(0) = 56"));
        edges.holds(34, far, World.and(told, "plank(1, 0, 0) = 0", "plank(1, 9, 0) = 1", "rows() = 1", "whose(0) = 1",
            "whose(1) = 512"));
        // Behind the last HUT: PLACE 9, where only PLACES 0 to 2 have one.
        edges.holds(34, far, World.of(0, 3, "lost(0, 1, 0)", "lost(1, 1, 0)", "lost(2, 1, 0)", "plank(1, 9, 6) = 0",
            "rows() = 0", "plank(1, 9, 7) = 1", "rows() = 0", "whose(1) = 0"));
        edges.holds(34, far, World.of(0, 3, "lost(0, 1, 0)", "lost(1, 1, 0)", "lost(2, 1, 0)", "plank(1, 9, 7) = 0",
            "rows() = 1", "whose(0) = 4", "plank(1, 9, 8) = 1", "rows() = 1", "whose(1) = 2"));
    }

    private static void losses(Edges edges) {
        edges.holds(34, "no HUT more than it LOST", World.of(0, 2, "lost(0, 1, 0)", "plank(1, 0, 9) = 0", "rows() = 1",
            "plank(1, 0, 9) = 1", "rows() = 0", "lost(0, 2, 0)", "rows() = 1", "plank(1, 0, 9) = 2", "rows() = 0",
            "lost(1, 1, 0)", "rows() = 3", "whose(0) = 3", "lost(1, 4, 0)", "rows() = 7", "lost(0, 0, 0)", "rows() = 1",
            "whose(2) = 2"));
    }

    private static void most(Edges edges) {
        long[] rows = {0, 1814400, 63730800, 94978800, 99568350};
        for (int lost = 0; lost <= 4; lost++) {
            String[] ten = new String[10];
            for (int i = 0; i < 10; i++) {
                ten[i] = "lost(" + i + ", " + lost + ", " + i % 8 + ")";
            }
            edges.holds(34, "How many ROWS there are.", World.and(World.of(0, 10, ten), "8 times plank(255, 0, 9) = 7",
                "rows() = " + rows[lost], "whose(0) = " + (lost == 0 ? 0 : 1023), "whose(7) = "
                + (lost == 0 ? 0 : 1023)));
        }
    }

    private static void placesNow(Edges edges) {
        edges.holds(34, "(PLACES as told now)", World.of(0, 2, "lost(0, 1, 0)", "plank(1, 0, 0) = 0", "rows() = 1",
            "event(1980, 6, 0, 1)", "rows() = 0", "event(1981, 6, 0, 0)", "rows() = 0", "years(1) = 1981",
            "rows() = 1"));
        edges.holds(35, "(PLACES as told now)", World.of(0, 2, "lost(0, 1, 0)", "lost(1, 1, 0)", "plank(1, 0, 0) = 0",
            "whose(0) = 1", "event(1980, 6, 0, 1)", "whose(0) = 2", "event(1981, 6, 0, 0)", "whose(0) = 2",
            "years(1) = 1981", "whose(0) = 1"));
    }

    private static void whose(Edges edges) {
        // In some row: one that could be of two is of one alone, as another must have the other.
        edges.holds(35, WHOSE, World.of(0, 2, "lost(0, 1, 0)", "lost(1, 1, 1)", "plank(3, 0, 9) = 0", "whose(0) = 3",
            "plank(1, 0, 9) = 1", "whose(0) = 2", "whose(1) = 1", "lost(0, 2, 0)", "whose(0) = 3", "rows() = 2"));
        // The tenth HUT, and the eighth PLANK.
        edges.holds(35, WHOSE, World.of(0, 10, "lost(9, 4, 7)", "lost(8, 4, 7)", "8 times plank(128, 9, 1) = 7",
            "whose(7) = 768", "rows() = 70", "plank(128, 9, 0) throws UnsupportedOperation"));
    }
}
