import java.util.ArrayList;
import java.util.Arrays;
import java.util.List;

/** Rows that tests of a Run begin with: something of everything, so that what a call changes can be seen. */
final class World {
    /** Five PERSONS, three HUTS, all sorts of texts, an image, a wrong text, and a TAPE of 15 bytes. */
    private static final String[] RICH = {
        "person(1920, 500, true) = 0", "person(1925, 300, false) = 1", "person(1950, 900, true) = 2",
        "person(1948, 100, false) = 3", "hut(5, 0, 2) = 0", "hut(3, 1, 0) = 1", "hut(9, NONE, 10) = 2",
        "event(1945, 1, 0, 1) = 1", "event(1950, 3, 0, 2) = 2", "event(1948, 3, 1, 3) = 3",
        "sale(1950, 1, 2, 100) = 4", "event(1960, 0, 0, 0) = 5", "event(1965, 6, 2, 0) = 6",
        "event(1970, 5, 2, 3) = 7", "waits(1, 1970) = 1", "waits(3, 1975) = 2", "freed(2) = 1", "freed(3) = 2",
        "wind(0, 9)", "wind(30, 5)", "wind(59, 9)", "line(0, 10, 20)", "line(1, 15, 60)", "storm(1962, 1) = 0",
        "lost(0, 2, 1)", "lost(1, 1, 2)", "plank(2, 1, 1) = 0", "plank(6, 1, 9) = 1", "photo(0, 1960, 3) = 1",
        "photo(0, 1970, 1) = 2", "photo(1, 1970, 2) = 3", "thief(5) = 1", "thief(17) = 2",
        "read(0, 'to spouse; to child') = 2", "read(1, 'add 10 * size; add 50 if local') = 2",
        "read(2, 'add 1 * waited; add 5 * children') = 2", "read(3, 'allow 1; allow 3 if year < 1965') = 2",
        "image()", "years(3) = 1983", "person(1960, 50, true) = 4", "event(1975, 0, 1, 0) = 8",
        "storm(1971, 3) = 1", "thief(29) = 3", "photo(2, 1975, 7) = 4", "read(1, 'add 9 * size') = 1",
        "read(0, 'to parrot') throws IllegalArgument", "tape('to child; to sp')"};

    private World() {
    }

    static String[] rich(String... rows) {
        return and(RICH, rows);
    }

    /** So many PERSONS of 1950 and HUTS of size 1 that nobody holds. */
    static String[] of(int persons, int huts, String... rows) {
        List<String> first = new ArrayList<>();
        for (int i = 0; i < persons; i++) {
            first.add("person(1950, 100, true) = " + i);
        }
        for (int i = 0; i < huts; i++) {
            first.add("hut(1, NONE, 0) = " + i);
        }
        return and(first.toArray(new String[0]), rows);
    }

    static String[] and(String[] first, String... rows) {
        List<String> all = new ArrayList<>(Arrays.asList(first));
        all.addAll(Arrays.asList(rows));
        return all.toArray(new String[0]);
    }
}
