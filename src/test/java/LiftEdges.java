import java.util.ArrayList;
import java.util.List;

/** Promises 24 to 26: lift, wind, crane. */
final class LiftEdges {
    private static final String LIFT_NONE =
        "IllegalArgumentException: PILES or HOW are none, or the set has more than 7.";

    private LiftEdges() {
    }

    static void tell(Edges edges) {
        liftNumbers(edges);
        liftSets(edges);
        liftHuts(edges);
        least(edges);
        firstWay(edges);
        how(edges);
        placesNow(edges);
        wind(edges);
        craneNumbers(edges);
        craneStrong(edges);
        craneMany(edges);
        craneNone(edges);
        craneOrder(edges);
    }

    private static void liftNumbers(Edges edges) {
        for (String none : new String[] {"0", "5", "-1", "LEAST", "MOST"}) {
            edges.holds(24, LIFT_NONE, World.of(0, 2, "lift(3, " + none + ", 0, NONE) throws IllegalArgument",
                "lift(0, " + none + ", 0, 0) throws IllegalArgument"));
            edges.holds(24, LIFT_NONE, World.rich("lift(3, " + none + ", 0, NONE) throws IllegalArgument"));
        }
        for (String none : new String[] {"3", "-1", "4", "LEAST", "MOST"}) {
            edges.holds(24, LIFT_NONE, World.of(0, 2, "lift(3, 1, " + none + ", NONE) throws IllegalArgument",
                "lift(0, 1, " + none + ", 0) throws IllegalArgument"));
            edges.holds(24, LIFT_NONE, World.rich("lift(3, 1, " + none + ", 0) throws IllegalArgument"));
        }
        edges.holds(24, "to PILES (1 to 4)", World.of(0, 5, "lift(31, 1, 0, NONE) = 4", "lift(31, 2, 0, NONE) = 3",
            "lift(31, 3, 0, NONE) = 2", "lift(31, 4, 0, NONE) = 1"));
        edges.holds(24, "HOW 0 by PLACES from the first on, 1 by PLACES from the last on, 2 by numbers.", World.of(0, 2,
            "lift(3, 1, 0, NONE) = 1", "lift(3, 1, 1, NONE) = 0", "lift(3, 1, 2, NONE) = 1"));
    }

    private static void liftSets(Edges edges) {
        String sentence = "LIFTS: HUTS of a set (at most 7)";
        edges.holds(24, sentence, World.of(0, 10, "lift(127, 1, 0, NONE) = 6",
            "lift(255, 1, 0, NONE) throws IllegalArgument", "lift(1016, 1, 0, NONE) = 6",
            "lift(1017, 1, 0, NONE) throws IllegalArgument", "lift(1023, 4, 2, 5) throws IllegalArgument",
            "lift(-1, 1, 0, NONE) throws IllegalArgument", "lift(0, 1, 0, NONE) = 0"));
        edges.holds(24, Edges.BITS, World.of(0, 7, "lift(-1, 1, 0, NONE) = 6", "lift(LEAST, 1, 0, NONE) = 0",
            "lift(MOST, 1, 0, NONE) = 6", "lift(896, 1, 0, NONE) = 0", "lift(1016, 1, 0, NONE) = 3",
            "lift(255, 1, 0, 6) = 0", "lift(-128, 1, 0, 6) = -1"));
        // With an eighth HUT its bit counts.
        edges.holds(24, Edges.BITS, World.of(0, 7, "lift(255, 1, 0, NONE) = 6", "hut(1, NONE, 0) = 7",
            "lift(255, 1, 0, NONE) throws IllegalArgument", "lift(254, 1, 0, NONE) = 6", "lift(-129, 1, 0, NONE) = 6"));
        edges.holds(24, Edges.FIRST_TOLD, World.of(0, 10, "lift(255, 1, 0, 10) throws IndexOutOfBounds",
            "lift(255, 0, 0, -2) throws IndexOutOfBounds", "lift(255, 1, 3, 10) throws IndexOutOfBounds"));
    }

    private static void liftHuts(Edges edges) {
        for (String none : new String[] {"2", "-2", "10", "LEAST", "MOST"}) {
            edges.holds(24, Edges.NO_SUCH, World.of(0, 2, "lift(3, 1, 0, " + none + ") throws IndexOutOfBounds",
                "lift(0, 0, 3, " + none + ") throws IndexOutOfBounds"));
        }
        edges.holds(24, Edges.NO_SUCH, World.rich("lift(7, 1, 0, 3) throws IndexOutOfBounds",
            "lift(7, 1, 0, -2) throws IndexOutOfBounds"));
        edges.holds(24, "(NONE, if it is not of the set)", World.of(0, 3, "lift(5, 1, 0, 1) = -1",
            "lift(5, 1, 0, 0) = 0", "lift(5, 1, 0, 2) = 0", "lift(0, 1, 0, 0) = -1", "lift(8, 1, 0, 2) = -1"));
    }

    private static void least(Edges edges) {
        String sentence = "A HUT is lifted TWICE, if it lies above one in its PILE that comes back ahead of it.";
        edges.holds(24, sentence, "hut(9, NONE, 0) = 0", "hut(1, NONE, 0) = 1", "hut(5, NONE, 0) = 2",
            "lift(1, 1, 0, NONE) = 0", "lift(3, 1, 0, NONE) = 1", "lift(7, 1, 0, NONE) = 6", "lift(7, 2, 0, NONE) = 1",
            "lift(7, 3, 0, NONE) = 0", "lift(7, 4, 0, NONE) = 0", "lift(7, 1, 1, NONE) = 0", "lift(5, 1, 0, NONE) = 5");
        // Not only just above: HUT 2, that comes back last, is between, and 1 still lies above 0.
        edges.holds(24, sentence, "hut(1, NONE, 0) = 0", "hut(2, NONE, 0) = 1", "hut(4, NONE, 0) = 2",
            "event(1950, 6, 2, 1)", "lift(7, 1, 2, NONE) = 6", "lift(7, 2, 2, NONE) = 0", "lift(7, 2, 2, 0) = 0",
            "lift(7, 2, 2, 2) = 1", "lift(7, 2, 2, 1) = 1");
        // The largest of all: seven of size 9 in one PILE.
        edges.holds(24, "LEAST: the least SIZE of all that are lifted TWICE together;", "7 times hut(9, NONE, 0) = 6",
            "lift(127, 1, 0, NONE) = 54", "lift(127, 4, 0, NONE) = 27", "lift(127, 1, 1, NONE) = 0");
        edges.holds(24, "LEAST: the least SIZE of all that are lifted TWICE together;", "hut(1, NONE, 0) = 0",
            "hut(9, NONE, 0) = 1", "hut(1, NONE, 0) = 2", "hut(9, NONE, 0) = 3", "hut(1, NONE, 0) = 4",
            "hut(9, NONE, 0) = 5", "hut(1, NONE, 0) = 6", "lift(127, 3, 0, NONE) = 12", "lift(127, 4, 0, NONE) = 3");
    }

    private static void firstWay(Edges edges) {
        String sentence = "the first way: of HUTS as they go, the least PILE for the first one, then for the second "
            + "one, ..";
        edges.holds(24, sentence, World.of(0, 7, "lift(127, 4, 0, NONE) = 3", "lift(127, 4, 0, 0) = 0",
            "lift(127, 4, 0, 1) = 0", "lift(127, 4, 0, 2) = 0", "lift(127, 4, 0, 3) = 0", "lift(127, 4, 0, 4) = 1",
            "lift(127, 4, 0, 5) = 2", "lift(127, 4, 0, 6) = 3", "lift(127, 4, 1, 6) = 0", "lift(127, 1, 0, 6) = 0"));
        edges.holds(24, sentence, "hut(9, NONE, 0) = 0", "hut(5, NONE, 0) = 1", "hut(1, NONE, 0) = 2",
            "hut(5, NONE, 0) = 3", "lift(15, 3, 0, NONE) = 1", "lift(15, 3, 0, 0) = 0", "lift(15, 3, 0, 1) = 1",
            "lift(15, 3, 0, 2) = 0", "lift(15, 3, 0, 3) = 2", "lift(15, 4, 0, 3) = 3", "lift(15, 4, 0, 2) = 2");
        // As they go: by PLACES, not by numbers. The row is 1, 0: HUT 1 has the least PILE.
        edges.holds(24, sentence, "hut(1, NONE, 0) = 0", "hut(1, NONE, 0) = 1", "event(1950, 6, 1, 0)",
            "lift(3, 2, 0, 1) = 0", "lift(3, 2, 0, 0) = 1", "lift(3, 2, 0, NONE) = 0", "lift(3, 2, 2, 0) = 0",
            "lift(3, 2, 2, 1) = 0");
    }

    private static void how(Edges edges) {
        // The row is 2, 0, 1.
        edges.holds(24, "in spring they come back: HOW 0 by PLACES from the first on, 1 by PLACES from the last on, "
            + "2 by numbers.", "hut(1, NONE, 0) = 0", "hut(2, NONE, 0) = 1", "hut(4, NONE, 0) = 2",
            "event(1950, 6, 2, 0)", "lift(7, 1, 0, NONE) = 3", "lift(7, 1, 1, NONE) = 0", "lift(7, 1, 2, NONE) = 2");
    }

    private static void placesNow(Edges edges) {
        edges.holds(24, "go by their PLACES, as told now", "hut(1, NONE, 0) = 0", "hut(2, NONE, 0) = 1",
            "lift(3, 1, 0, NONE) = 2", "event(1980, 6, 1, 0)", "lift(3, 1, 0, NONE) = 1", "event(1981, 6, 1, 1)",
            "lift(3, 1, 0, NONE) = 1", "years(1) = 1981", "lift(3, 1, 0, NONE) = 2");
    }

    private static void wind(Edges edges) {
        for (String day : new String[] {"-1", "60", "LEAST", "MOST"}) {
            edges.holds(25, "CRANE: WIND of DAYS 0 to 59", World.of(0, 1, "wind(" + day
                + ", 0) throws IndexOutOfBounds", "wind(" + day + ", 9) throws IndexOutOfBounds", "wind(" + day
                + ", 10) throws IndexOutOfBounds", "wind(" + day + ", -1) throws IndexOutOfBounds"));
            edges.holds(25, Edges.NO_SUCH, World.rich("wind(" + day + ", 9) throws IndexOutOfBounds"));
        }
        for (String none : new String[] {"-1", "10", "LEAST", "MOST"}) {
            edges.holds(25, "IllegalArgumentException: it is none.", World.of(0, 1, "wind(0, " + none
                + ") throws IllegalArgument", "wind(59, " + none + ") throws IllegalArgument",
                "crane(1, 59, 1, true) = 59"));
            edges.holds(25, "IllegalArgumentException: it is none.", World.rich("wind(0, " + none
                + ") throws IllegalArgument", "wind(30, " + none + ") throws IllegalArgument"));
        }
        edges.holds(25, "(0 to 9; 0 at first)", "hut(9, NONE, 0) = 0", "hut(3, NONE, 0) = 1", "wind(0, 0)",
            "wind(59, 9)", "crane(1, 0, 1, true) = 0", "crane(1, 58, 1, true) = 58", "crane(1, 59, 1, true) = -1",
            "crane(2, 59, 1, true) = 59", "wind(59, 0)", "crane(1, 59, 1, true) = 59", "wind(0, 9)",
            "crane(1, 0, 1, true) = 1");
        List<String> rows = new ArrayList<>(List.of("hut(9, NONE, 0) = 0"));
        for (int day = 0; day < 60; day++) {
            rows.add("crane(1, " + day + ", 1, true) = " + day);
        }
        edges.holds(25, "(0 to 9; 0 at first)", rows.toArray(new String[0]));
        // Each DAY has its own.
        List<String> all = new ArrayList<>(List.of("hut(9, NONE, 0) = 0"));
        for (int day = 0; day < 60; day++) {
            all.add("wind(" + day + ", " + (day % 7 == 3 ? 3 : 4) + ")");
        }
        for (int day = 0; day < 60; day++) {
            int first = day + Math.floorMod(3 - day, 7);
            all.add("crane(1, " + day + ", 1, false) = " + (first < 60 ? first : -1));
        }
        edges.holds(25, "WIND of a DAY.", all.toArray(new String[0]));
    }

    private static void craneNumbers(Edges edges) {
        for (String day : new String[] {"-1", "60", "LEAST", "MOST"}) {
            edges.holds(26, "CRANE: WIND of DAYS 0 to 59", World.of(0, 1, "crane(1, " + day
                + ", 1, true) throws IndexOutOfBounds", "crane(0, " + day + ", 1, false) throws IndexOutOfBounds",
                "crane(1, " + day + ", 0, true) throws IndexOutOfBounds", "crane(1, " + day
                + ", 10, false) throws IndexOutOfBounds"));
            edges.holds(26, Edges.NO_SUCH, World.rich("crane(1, " + day + ", 1, true) throws IndexOutOfBounds"));
        }
        for (String none : new String[] {"0", "10", "-1", "LEAST", "MOST"}) {
            edges.holds(26, "IllegalArgumentException: so many a DAY are none.", World.of(0, 1, "crane(1, 0, " + none
                + ", true) throws IllegalArgument", "crane(1, 59, " + none + ", false) throws IllegalArgument",
                "crane(0, 0, " + none + ", true) throws IllegalArgument"));
            edges.holds(26, "IllegalArgumentException: so many a DAY are none.",
                World.rich("crane(1, 0, " + none + ", true) throws IllegalArgument"));
        }
        edges.holds(26, "CRANE: WIND of DAYS 0 to 59", World.of(0, 1, "crane(1, 0, 1, true) = 0",
            "crane(1, 0, 9, false) = 0", "crane(1, 59, 1, false) = 59", "crane(1, 59, 9, true) = 59"));
    }

    private static void craneStrong(Edges edges) {
        String sentence = "a HUT can be lifted if WIND and SIZE together are at most 12";
        for (int size = 1; size <= 9; size++) {
            int most = Math.min(9, 12 - size);
            edges.holds(26, sentence, "hut(" + size + ", NONE, 0) = 0", "wind(0, " + most + ")",
                "crane(1, 0, 1, true) = 0", "crane(1, 0, 1, false) = 0");
            if (most < 9) {
                edges.holds(26, sentence, "hut(" + size + ", NONE, 0) = 0", "wind(0, " + (most + 1) + ")",
                    "crane(1, 0, 1, true) = 1", "crane(1, 0, 1, false) = 1");
            }
        }
    }

    private static void craneMany(Edges edges) {
        String sentence = "so many HUTS a DAY (1 to 9).";
        edges.holds(26, sentence, World.of(0, 10, "crane(1023, 0, 1, true) = 9", "crane(1023, 0, 1, false) = 9",
            "crane(1023, 0, 9, true) = 1", "crane(1023, 0, 9, false) = 1", "crane(511, 0, 9, true) = 0",
            "crane(511, 0, 9, false) = 0", "crane(511, 0, 8, true) = 1", "crane(1023, 0, 5, false) = 1",
            "crane(1023, 0, 4, true) = 2", "crane(3, 0, 1, false) = 1", "crane(3, 0, 2, false) = 0"));
    }

    private static void craneNone(Edges edges) {
        String sentence = "None, if not by DAY 59; of no HUTS that DAY.";
        edges.holds(26, sentence, World.of(0, 3, "crane(7, 57, 1, true) = 59", "crane(7, 58, 1, true) = -1",
            "crane(7, 57, 1, false) = 59", "crane(7, 58, 1, false) = -1", "crane(7, 58, 2, false) = 59",
            "crane(7, 59, 2, true) = -1", "crane(7, 59, 3, true) = 59", "crane(0, 59, 1, true) = 59",
            "crane(0, 0, 1, false) = 0", "crane(0, 17, 9, true) = 17"));
        edges.holds(26, sentence, "crane(1, 30, 1, true) = 30", "crane(-1, 30, 1, false) = 30");
        // Of no HUTS that DAY, however strong the WIND.
        edges.holds(26, sentence, World.of(0, 1, "wind(5, 9)", "crane(0, 5, 1, true) = 5",
            "crane(2, 5, 1, false) = 5"));
        edges.holds(26, Edges.BITS, World.of(0, 2, "crane(-4, 7, 1, true) = 7", "crane(-1, 7, 1, true) = 8",
            "crane(LEAST, 7, 1, false) = 7", "crane(MOST, 7, 1, false) = 8", "crane(5, 7, 1, false) = 7"));
        // Not one DAY is still enough.
        edges.holds(26, sentence, "hut(9, NONE, 0) = 0", "wind(58, 4)", "wind(59, 4)", "crane(1, 58, 9, true) = -1",
            "crane(1, 58, 9, false) = -1", "crane(1, 57, 1, true) = 57", "wind(59, 3)", "crane(1, 58, 1, true) = 59");
    }

    private static void craneOrder(Edges edges) {
        String any = "DONE: the first DAY by the end of which all of a set can have been lifted, from a DAY on, in "
            + "whatever order;";
        String order = "IN ORDER: if they go by numbers, each as soon as it can be, but none ahead of those before it.";
        // 9 must go on DAY 0, though 1 comes first by numbers: else it waits for DAY 3.
        String[] told = {"hut(1, NONE, 0) = 0", "hut(9, NONE, 0) = 1", "wind(1, 9)", "wind(2, 9)", "wind(3, 3)"};
        edges.holds(26, any, World.and(told, "crane(3, 0, 1, false) = 1", "crane(3, 0, 2, false) = 0",
            "crane(3, 1, 1, false) = 3"));
        edges.holds(26, order, World.and(told, "crane(3, 0, 1, true) = 3", "crane(3, 0, 2, true) = 0",
            "crane(3, 1, 2, true) = 3"));
        // The first holds up all others, who then go on the same DAY as long as there is room.
        String[] held = {"hut(9, NONE, 0) = 0", "hut(1, NONE, 0) = 1", "hut(1, NONE, 0) = 2", "wind(0, 4)",
            "wind(1, 4)"};
        edges.holds(26, order, World.and(held, "crane(7, 0, 1, true) = 4", "crane(7, 0, 2, true) = 3",
            "crane(7, 0, 3, true) = 2", "crane(6, 0, 1, true) = 1"));
        edges.holds(26, any, World.and(held, "crane(7, 0, 1, false) = 2", "crane(7, 0, 9, false) = 2",
            "crane(6, 0, 2, false) = 0"));
        // By numbers, not by PLACES.
        edges.holds(26, order, World.and(told, "event(1950, 6, 1, 0)", "crane(3, 0, 1, true) = 3"));
        // The largest must go first, be it told first, last or between.
        edges.holds(26, any, "hut(9, NONE, 0) = 0", "hut(1, NONE, 0) = 1", "hut(8, NONE, 0) = 2", "wind(1, 4)",
            "wind(2, 9)", "wind(3, 9)", "crane(3, 0, 1, false) = 1", "crane(7, 0, 1, false) = 2",
            "crane(6, 0, 1, false) = 1", "crane(5, 0, 1, false) = 1", "crane(5, 1, 1, false) = 4",
            "crane(7, 0, 2, false) = 1");
        // In the middle: what was lifted before stays lifted.
        edges.holds(26, any, "hut(3, NONE, 0) = 0", "hut(6, NONE, 0) = 1", "hut(9, NONE, 0) = 2", "wind(0, 9)",
            "wind(1, 6)", "wind(2, 9)", "wind(3, 3)", "crane(7, 0, 1, false) = 3", "crane(7, 0, 1, true) = 3",
            "crane(7, 1, 1, false) = 3", "crane(7, 1, 1, true) = 4");
    }
}
