/** Promises 40 and 41: thief, thieves. */
public final class ThievesTest {
    public static void main(String[] args) {
        nights();
        periods();
        Check.close();
    }

    private static void nights() {
        HutRow x = new HutRow();
        Check.illegal("night -1", () -> x.thief(-1));
        Check.illegal("night 366", () -> x.thief(366));
        for (int i = 1; i <= 12; i++) {
            int night = i % 2 * 365;
            Check.due("night " + i, i, () -> x.thief(night));
        }
        Check.full("a 13th", () -> x.thief(5));
        Check.illegal("a wrong 13th", () -> x.thief(-5));
        // 365 is 5 times 73.
        Check.due("period", 5, () -> x.thieves(false));
        Check.due("next", 370, () -> x.thieves(true));
    }

    private static void thieves(int period, int next, int... nights) {
        HutRow x = new HutRow();
        StringBuilder told = new StringBuilder();
        for (int night : nights) {
            x.thief(night);
            told.append(' ').append(night);
        }
        Check.due("period of" + told, period, () -> x.thieves(false));
        Check.due("next of" + told, next, () -> x.thieves(true));
    }

    private static void periods() {
        thieves(-1, -1);
        thieves(-1, -1, 5);
        thieves(2, 7, 5, 5);
        thieves(2, 11, 5, 9);
        thieves(3, 24, 21, 12, 15);
        thieves(7, 22, 1, 15, 8);
        thieves(-1, -1, 5, 6);
        thieves(-1, -1, 0, 41);
        thieves(37, 74, 0, 37);
        thieves(37, 111, 74, 37, 0);
        thieves(2, 40, 38, 0);
        thieves(3, 42, 0, 39);
        thieves(3, 81, 0, 39, 78, 0, 39, 78);
        thieves(-1, -1, 0, 4, 7);
        thieves(11, 110, 0, 22, 33, 99);
        thieves(2, 367, 365, 1);
    }
}
