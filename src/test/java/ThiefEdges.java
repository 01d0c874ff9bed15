/** Promises 40 and 41: thief, thieves. */
final class ThiefEdges {
    private static final String THIEVES =
        "THIEVES: NIGHTS (0 to 365; at most 12): the least PERIOD (2 to 40) by which all have "
        + "one rest; NEXT: the first such NIGHT behind the last of all; none without two NIGHTS or a PERIOD.";

    private ThiefEdges() {
    }

    static void tell(Edges edges) {
        numbers(edges);
        many(edges);
        none(edges);
        periods(edges);
        next(edges);
    }

    private static void numbers(Edges edges) {
        for (String night : new String[] {"-1", "366", "LEAST", "MOST"}) {
            edges.holds(40, "THIEVES: NIGHTS (0 to 365; at most 12)", "thief(" + night + ") throws IllegalArgument",
                "thief(5) = 1", "thief(" + night + ") throws IllegalArgument", "thieves(false) = -1");
            edges.holds(40, "IllegalArgumentException: it is none;", World.rich("thief(" + night
                + ") throws IllegalArgument", "thief(0) = 4"));
        }
        edges.holds(40, "THIEVES: NIGHTS (0 to 365; at most 12)", "thief(0) = 1", "thief(365) = 2",
            "thieves(false) = 5", "thieves(true) = 370");
    }

    private static void many(Edges edges) {
        edges.holds(40, "UnsupportedOperationException: there are 12.", "11 times thief(4) = 11", "thief(8) = 12",
            "thief(9) throws UnsupportedOperation", "thief(4) throws UnsupportedOperation", "thieves(false) = 2",
            "thieves(true) = 10");
        edges.holds(40, Edges.FIRST_TOLD, "12 times thief(4) = 12", "thief(366) throws IllegalArgument",
            "thief(-1) throws IllegalArgument", "thief(365) throws UnsupportedOperation");
        edges.holds(40, "UnsupportedOperationException: there are 12.", World.rich("9 times thief(5) = 12",
            "thief(5) throws UnsupportedOperation"));
        // The twelfth counts as all others do.
        edges.holds(41, THIEVES, "11 times thief(4) = 11", "thieves(false) = 2", "thief(7) = 12", "thieves(false) = 3",
            "thieves(true) = 10");
    }

    private static void none(Edges edges) {
        edges.holds(41, THIEVES, "thieves(false) = -1", "thieves(true) = -1", "thief(5) = 1", "thieves(false) = -1",
            "thieves(true) = -1", "thief(7) = 2", "thieves(false) = 2", "thieves(true) = 9");
        // No PERIOD: the NIGHTS are 1 apart, or by a prime above 40, or by its square.
        edges.holds(41, THIEVES, "thief(5) = 1", "thief(6) = 2", "thieves(false) = -1", "thieves(true) = -1");
        edges.holds(41, THIEVES, "thief(0) = 1", "thief(41) = 2", "thieves(false) = -1", "thieves(true) = -1");
        edges.holds(41, THIEVES, "thief(41) = 1", "thief(0) = 2", "thieves(false) = -1");
        edges.holds(41, THIEVES, "thief(4) = 1", "thief(8) = 2", "thieves(false) = 2", "thief(9) = 3",
            "thieves(false) = -1", "thieves(true) = -1");
    }

    private static void periods(Edges edges) {
        edges.holds(41, THIEVES, "thief(0) = 1", "thief(2) = 2", "thieves(false) = 2");
        edges.holds(41, THIEVES, "thief(1) = 1", "thief(4) = 2", "thieves(false) = 3");
        edges.holds(41, THIEVES, "thief(10) = 1", "thief(47) = 2", "thieves(false) = 37", "thieves(true) = 84");
        edges.holds(41, THIEVES, "thief(0) = 1", "thief(43) = 2", "thieves(false) = -1");
        // 82 is twice 41: the least PERIOD is 2. 40 goes by 2, and so never by 40.
        edges.holds(41, THIEVES, "thief(0) = 1", "thief(82) = 2", "thieves(false) = 2");
        edges.holds(41, THIEVES, "thief(0) = 1", "thief(40) = 2", "thieves(false) = 2");
        edges.holds(41, THIEVES, "thief(0) = 1", "thief(35) = 2", "thieves(false) = 5", "thief(49) = 3",
            "thieves(false) = 7", "thief(50) = 4", "thieves(false) = -1");
        // One rest need not be 0, and is of all, not of those one behind another alone.
        edges.holds(41, THIEVES, "thief(21) = 1", "thief(10) = 2", "thief(32) = 3", "thieves(false) = 11",
            "thieves(true) = 43");
        // A NIGHT that is told twice.
        edges.holds(41, THIEVES, "thief(5) = 1", "thief(5) = 2", "thieves(false) = 2", "thieves(true) = 7");
        edges.holds(41, THIEVES, "thief(365) = 1", "thief(365) = 2", "thieves(false) = 2", "thieves(true) = 367");
    }

    private static void next(Edges edges) {
        // Behind the last of all, not of the one told last.
        edges.holds(41, THIEVES, "thief(30) = 1", "thief(9) = 2", "thieves(false) = 3", "thieves(true) = 33");
        edges.holds(41, THIEVES, "thief(9) = 1", "thief(30) = 2", "thieves(true) = 33");
        edges.holds(41, THIEVES, "thief(365) = 1", "thief(328) = 2", "thieves(false) = 37", "thieves(true) = 402");
    }
}
