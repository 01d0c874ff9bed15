/** Promises 32 to 35: lost, plank, rows, whose. */
public final class PlankTest {
    public static void main(String[] args) {
        planks();
        coloursAndPlaces();
        nearness();
        losses();
        shared();
        mostRows();
        moves();
        wrongAsks();
        Check.close();
    }

    private static HutRow huts(int many) {
        HutRow x = new HutRow();
        for (int i = 0; i < many; i++) {
            x.hut(1, -1, 0);
        }
        return x;
    }

    private static void rows(HutRow x, long rows, int... whose) {
        Check.due("rows()", rows, x::rows);
        for (int i = 0; i < whose.length; i++) {
            int plank = i;
            Check.due("whose(" + i + ")", whose[i], () -> x.whose(plank));
        }
    }

    private static void planks() {
        HutRow x = huts(1);
        Check.outside("place -1", () -> x.plank(0, -1, 0));
        Check.outside("place 10", () -> x.plank(1, 10, 99));
        Check.illegal("no colours", () -> x.plank(0, 0, 0));
        Check.illegal("colours 256", () -> x.plank(256, 0, 0));
        Check.illegal("colours -1", () -> x.plank(-1, 0, 0));
        Check.illegal("far -1", () -> x.plank(1, 0, -1));
        Check.illegal("far 10", () -> x.plank(1, 0, 10));
        Check.due("no planks", 0, () -> x.count(6));
        rows(x, 1);
        for (int i = 0; i < 8; i++) {
            int number = i;
            // A place in the road may be behind the last hut.
            Check.due("plank " + i, i, () -> x.plank(255 >> number, 9 - number, number));
        }
        Check.full("a 9th", () -> x.plank(1, 0, 0));
        Check.illegal("a wrong 9th", () -> x.plank(0, 0, 0));
        Check.outside("a 9th nowhere", () -> x.plank(0, 10, 0));
        Check.due("eight", 8, () -> x.count(6));
    }

    private static void coloursAndPlaces() {
        HutRow x = huts(3);
        x.lost(0, 1, 0);
        x.lost(1, 1, 5);
        x.lost(2, 1, 7);
        x.plank(1 << 5, 0, 9);
        rows(x, 1, 2);
        x.plank(1 | 1 << 7, 0, 9);
        rows(x, 2, 2, 5);
        x.plank(255, 0, 9);
        rows(x, 2, 2, 5, 5);
        x.plank(2, 0, 9);
        rows(x, 0, 0, 0, 0, 0);
        x.lost(0, 1, 1);
        // The plank 3 is of hut 0, and so plank 1 of hut 2: nothing is left for plank 2.
        rows(x, 0, 0, 0, 0, 0);
        x.lost(1, 2, 5);
        rows(x, 1, 2, 4, 2, 1);
    }

    private static void nearness() {
        HutRow x = huts(10);
        for (int i = 0; i < 10; i++) {
            x.lost(i, 1, 0);
        }
        x.plank(1, 5, 0);
        rows(x, 1, 1 << 5);
        x.plank(1, 5, 1);
        rows(x, 2, 1 << 5, 1 << 4 | 1 << 6);
        x.plank(1, 0, 2);
        rows(x, 6, 1 << 5, 1 << 4 | 1 << 6, 7);
        x.plank(1, 9, 9);
        rows(x, 6 * 7, 1 << 5, 1 << 4 | 1 << 6, 7, 1023 ^ 1 << 5);
    }

    private static void losses() {
        HutRow x = huts(2);
        x.plank(1, 0, 9);
        rows(x, 0, 0);
        x.lost(0, 1, 0);
        rows(x, 1, 1);
        x.plank(1, 0, 9);
        rows(x, 0, 0, 0);
        x.lost(0, 2, 0);
        rows(x, 1, 1, 1);
        x.lost(1, 4, 0);
        rows(x, 4, 3, 3);
        x.plank(1, 0, 9);
        rows(x, 7, 3, 3, 3);
        x.plank(1, 0, 9);
        x.plank(1, 0, 9);
        // Of five at most two are of the first, at most four of the second: 5 over 1 and 5 over 2.
        rows(x, 15, 3, 3, 3, 3, 3);
        x.plank(1, 0, 9);
        rows(x, 15, 3, 3, 3, 3, 3, 3);
        x.plank(1, 0, 9);
        rows(x, 0, 0, 0, 0, 0, 0, 0, 0);
    }

    private static void shared() {
        // A plank that could be of two is of one, as another one must be of the other.
        HutRow x = huts(2);
        x.lost(0, 1, 0);
        x.lost(1, 1, 1);
        x.plank(3, 0, 9);
        rows(x, 2, 3);
        x.plank(2, 0, 9);
        rows(x, 1, 1, 2);
    }

    private static void mostRows() {
        HutRow x = huts(10);
        for (int i = 0; i < 10; i++) {
            x.lost(i, 4, i % 8);
        }
        for (int i = 0; i < 8; i++) {
            x.plank(255, 5, 9);
        }
        // All 10 to the 8th but those where one hut has 5 or more of the 8.
        long many = 100_000_000L - 10 * (56 * 729 + 28 * 81 + 8 * 9 + 1);
        rows(x, many, 1023, 1023, 1023, 1023, 1023, 1023, 1023, 1023);
    }

    private static void moves() {
        HutRow x = huts(3);
        x.lost(2, 1, 0);
        x.plank(1, 0, 0);
        rows(x, 0, 0);
        x.event(1990, 6, 2, 0);
        rows(x, 0, 0);
        x.event(1970, 6, 2, 0);
        rows(x, 1, 4);
        x.event(1975, 6, 2, 1);
        rows(x, 0, 0);
        x.years(10);
        rows(x, 1, 4);
        // What was asked last tells nothing: the row is looked at anew.
        Check.due("a row of long ago", 2, () -> x.place(2, 1950, 1980));
        Check.due("whose(0)", 4, () -> x.whose(0));
        Check.due("a row of long ago", 2, () -> x.place(2, 1950, 1980));
        Check.due("rows()", 1, x::rows);
        Check.does("lost 0", () -> x.lost(2, 0, 0));
        rows(x, 0, 0);
    }

    private static void wrongAsks() {
        HutRow x = huts(2);
        Check.outside("lost, no hut", () -> x.lost(2, 9, 0));
        Check.outside("lost, no hut", () -> x.lost(-1, 0, 0));
        Check.illegal("lost -1", () -> x.lost(0, -1, 0));
        Check.illegal("lost 5", () -> x.lost(0, 5, 0));
        Check.illegal("colour -1", () -> x.lost(0, 1, -1));
        Check.illegal("colour 8", () -> x.lost(0, 1, 8));
        Check.does("lost 4, colour 7", () -> x.lost(0, 4, 7));
        Check.outside("whose, no plank", () -> x.whose(0));
        x.plank(128, 0, 0);
        rows(x, 1, 1);
        Check.outside("whose, no plank", () -> x.whose(1));
        Check.outside("whose, no plank", () -> x.whose(-1));
    }
}
