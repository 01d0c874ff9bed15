/** Promises 25 and 26: wind, crane. */
public final class CraneTest {
    public static void main(String[] args) {
        winds();
        calm();
        largeFirst();
        inOrder();
        tooLate();
        wrongAsks();
        Check.close();
    }

    private static HutRow huts(int... sizes) {
        HutRow x = new HutRow();
        for (int size : sizes) {
            x.hut(size, -1, 0);
        }
        return x;
    }

    private static void days(HutRow x, int set, int day, int many, int done, int ordered) {
        String call = "crane(" + set + ", " + day + ", " + many + ", ";
        Check.due(call + "false)", done, () -> x.crane(set, day, many, false));
        Check.due(call + "true)", ordered, () -> x.crane(set, day, many, true));
    }

    private static void winds() {
        HutRow x = huts(9);
        Check.outside("day -1", () -> x.wind(-1, 0));
        Check.outside("day 60", () -> x.wind(60, 10));
        Check.illegal("wind -1", () -> x.wind(0, -1));
        Check.illegal("wind 10", () -> x.wind(0, 10));
        days(x, 1, 0, 1, 0, 0);
        Check.does("wind 4", () -> x.wind(0, 4));
        days(x, 1, 0, 1, 1, 1);
        Check.does("wind 3", () -> x.wind(0, 3));
        days(x, 1, 0, 1, 0, 0);
        Check.does("wind 9", () -> x.wind(59, 9));
        days(x, 1, 59, 1, -1, -1);
        Check.does("wind 0", () -> x.wind(59, 0));
        days(x, 1, 59, 1, 59, 59);
    }

    private static void calm() {
        HutRow x = huts(1, 9, 5, 5, 5, 5, 5, 5, 5, 5);
        days(x, 1023, 0, 9, 1, 1);
        days(x, 1023, 0, 1, 9, 9);
        days(x, 1023, 0, 3, 3, 3);
        days(x, 1023, 0, 5, 1, 1);
        days(x, 511, 0, 9, 0, 0);
        days(x, 0, 17, 5, 17, 17);
        // Bits of no huts count for nothing.
        days(x, ~1023, 17, 5, 17, 17);
        days(x, -1, 20, 5, 21, 21);
    }

    private static void largeFirst() {
        HutRow x = huts(3, 9, 6);
        x.wind(0, 9);
        x.wind(1, 6);
        x.wind(2, 9);
        x.wind(3, 3);
        // By whatever order: 3 on day 0, 6 on day 1, 9 on day 3.
        days(x, 7, 0, 1, 3, 4);
        days(x, 7, 0, 2, 3, 3);
        HutRow y = huts(1, 5, 9);
        y.wind(0, 3);
        y.wind(1, 7);
        y.wind(2, 9);
        // 9 must go on day 0, then 5, then 1.
        days(y, 7, 0, 1, 2, 3);
    }

    private static void inOrder() {
        HutRow x = huts(9, 1, 1);
        for (int day = 0; day < 10; day++) {
            x.wind(day, 5);
        }
        // None goes ahead of the first; all go on day 10.
        days(x, 7, 0, 3, 10, 10);
        days(x, 7, 0, 2, 10, 11);
        days(x, 7, 0, 1, 10, 12);
        days(x, 6, 0, 1, 1, 1);
        HutRow y = huts(1, 9, 1);
        y.wind(0, 9);
        // On day 0 the first; the second holds up the third.
        days(y, 7, 0, 2, 1, 1);
        days(y, 7, 0, 1, 2, 2);
    }

    private static void tooLate() {
        HutRow x = huts(1, 1, 1, 9);
        days(x, 7, 57, 1, 59, 59);
        days(x, 7, 58, 1, -1, -1);
        days(x, 15, 58, 2, 59, 59);
        x.wind(59, 9);
        days(x, 15, 58, 2, 59, -1);
        x.wind(58, 9);
        days(x, 15, 58, 9, -1, -1);
        days(x, 15, 57, 9, 57, 57);
        days(x, 7, 59, 3, 59, 59);
        days(x, 7, 59, 2, -1, -1);
        days(x, 0, 59, 1, 59, 59);
    }

    private static void wrongAsks() {
        HutRow x = huts(1);
        Check.outside("day -1", () -> x.crane(1, -1, 0, true));
        Check.outside("day 60", () -> x.crane(1, 60, 1, true));
        Check.outside("day 60 of no huts", () -> x.crane(0, 60, 1, false));
        for (int many : new int[] {0, -1, 10, Integer.MAX_VALUE}) {
            Check.illegal("many " + many, () -> x.crane(1, 0, many, true));
            Check.illegal("many " + many + " of no huts", () -> x.crane(0, 0, many, false));
        }
    }
}
