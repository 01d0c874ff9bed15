/** Promise 24: lift. */
public final class LiftTest {
    public static void main(String[] args) {
        onePile();
        morePiles();
        firstWay();
        byPlaces();
        byNumbers();
        sets();
        places();
        wrongAsks();
        Check.close();
    }

    private static HutRow huts(int... sizes) {
        HutRow x = new HutRow();
        for (int size : sizes) {
            x.hut(size, -1, 0);
        }
        return x;
    }

    private static void ways(HutRow x, int set, int piles, int how, int least, int... first) {
        String call = "lift(" + set + ", " + piles + ", " + how + ", ";
        Check.due(call + "NONE)", least, () -> x.lift(set, piles, how, -1));
        for (int i = 0; i < first.length; i++) {
            int hut = i;
            Check.due(call + i + ")", first[i], () -> x.lift(set, piles, how, hut));
        }
    }

    private static void onePile() {
        HutRow x = huts(1, 2, 3, 4);
        // From the first on, and back from the first on: all but the lowest lie above it.
        ways(x, 15, 1, 0, 9, 0, 0, 0, 0);
        ways(x, 15, 1, 1, 0, 0, 0, 0, 0);
        ways(x, 15, 1, 2, 9, 0, 0, 0, 0);
        ways(x, 8, 1, 0, 0, -1, -1, -1, 0);
        ways(x, 0, 4, 0, 0, -1, -1, -1, -1);
    }

    private static void morePiles() {
        HutRow x = huts(1, 2, 3, 4);
        // Two piles: one of the lowest of each pile is lifted once: the largest two.
        ways(x, 15, 2, 0, 5, 0, 0, 0, 1);
        ways(x, 15, 3, 0, 2, 0, 0, 1, 2);
        ways(x, 15, 4, 0, 0, 0, 1, 2, 3);
        ways(x, 15, 4, 1, 0, 0, 0, 0, 0);
        ways(x, 7, 2, 0, 2, 0, 0, 1, -1);
    }

    private static void firstWay() {
        // All of one size: of ways that are alike the least pile for the first ones.
        HutRow x = huts(5, 5, 5, 5, 5);
        ways(x, 31, 2, 0, 15, 0, 0, 0, 0, 1);
        ways(x, 31, 3, 0, 10, 0, 0, 0, 1, 2);
        ways(x, 31, 4, 0, 5, 0, 0, 1, 2, 3);
        ways(x, 31, 2, 1, 0, 0, 0, 0, 0, 0);
    }

    private static void byPlaces() {
        HutRow x = huts(9, 1, 9, 1, 9, 1, 9);
        ways(x, 127, 1, 0, 30);
        ways(x, 127, 4, 0, 3, 0, 0, 1, 0, 2, 0, 3);
    }

    private static void byNumbers() {
        HutRow x = huts(4, 3, 2, 1, 9);
        // The row is 4 3 2 1 0: they go from the first on, and come back by numbers: none twice.
        x.event(1950, 6, 0, 4);
        x.event(1950, 6, 1, 3);
        x.event(1950, 6, 2, 2);
        x.event(1950, 6, 3, 1);
        ways(x, 31, 1, 2, 0, 0, 0, 0, 0, 0);
        ways(x, 31, 1, 0, 10, 0, 0, 0, 0, 0);
        ways(x, 31, 1, 1, 0, 0, 0, 0, 0, 0);
        // The row is 2 0 1 4 3.
        HutRow y = huts(4, 3, 2, 1, 9);
        y.event(1950, 6, 2, 0);
        y.event(1950, 6, 4, 3);
        // One pile: 2 is lowest, 0 comes back ahead: fine; 1, 4, 3 lie above 0.
        ways(y, 31, 1, 2, 13, 0, 0, 0, 0, 0);
        // Two: 4 begins a pile, 3 goes on top of it; 1 alone lies above 0.
        ways(y, 31, 2, 2, 3, 0, 0, 0, 1, 1);
        ways(y, 31, 3, 2, 0, 0, 1, 0, 2, 2);
        ways(y, 31, 4, 2, 0, 0, 1, 0, 2, 2);
    }

    private static void sets() {
        HutRow x = huts(1, 1, 1, 1, 1, 1, 1, 1, 1, 1);
        Check.illegal("eight", () -> x.lift(255, 1, 0, -1));
        Check.illegal("ten", () -> x.lift(1023, 1, 0, -1));
        Check.illegal("all bits", () -> x.lift(-1, 1, 0, 5));
        ways(x, 127 << 3, 1, 0, 6, -1, -1, -1, 0);
        // Bits of no huts count for nothing, also for the seven.
        ways(x, ~1023, 1, 0, 0, -1);
        ways(x, ~1023 | 127, 1, 0, 6, 0);
        HutRow y = huts(1, 1, 1, 1, 1, 1, 1);
        ways(y, -1, 1, 0, 6, 0);
    }

    private static void places() {
        HutRow x = huts(1, 5, 3);
        ways(x, 7, 1, 0, 8);
        // As told now: a move of this year or before counts, known or not before.
        x.event(1980, 6, 1, 0);
        ways(x, 7, 1, 0, 4);
        // One of a year to come counts when that is here.
        x.event(1990, 6, 2, 0);
        ways(x, 7, 1, 0, 4);
        x.years(9);
        ways(x, 7, 1, 0, 4);
        x.years(1);
        ways(x, 7, 1, 0, 6);
    }

    private static void wrongAsks() {
        HutRow x = huts(1, 1);
        Check.outside("no hut", () -> x.lift(3, 1, 0, 2));
        Check.outside("no hut", () -> x.lift(3, 1, 0, -2));
        Check.outside("no hut, ahead of all", () -> x.lift(3, 9, 9, 2));
        Check.illegal("piles 0", () -> x.lift(3, 0, 0, -1));
        Check.illegal("piles 5", () -> x.lift(3, 5, 0, 0));
        Check.illegal("how -1", () -> x.lift(3, 1, -1, 0));
        Check.illegal("how 3", () -> x.lift(3, 1, 3, 0));
        Check.illegal("piles least", () -> x.lift(3, Integer.MIN_VALUE, 0, 0));
        Check.illegal("piles most", () -> x.lift(3, Integer.MAX_VALUE, 0, 0));
    }
}
