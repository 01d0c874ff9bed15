/** Promises 27 to 31: line, storm, sea, level, flood. */
public final class StormTest {
    public static void main(String[] args) {
        lines();
        oneStorm();
        storms();
        chains();
        noRows();
        asKnown();
        laterHuts();
        manyStorms();
        wrongAsks();
        Check.close();
    }

    private static HutRow huts(int many) {
        HutRow x = new HutRow();
        for (int i = 0; i < many; i++) {
            x.hut(1, -1, 0);
        }
        return x;
    }

    private static void level(HutRow x, int hut, int known, int least, int most) {
        Check.due("level(" + hut + ", " + known + ", false)", least, () -> x.level(hut, known, false));
        Check.due("level(" + hut + ", " + known + ", true)", most, () -> x.level(hut, known, true));
    }

    private static void sea(HutRow x, int storm, int known, int least, int most) {
        Check.due("sea(" + storm + ", " + known + ", false)", least, () -> x.sea(storm, known, false));
        Check.due("sea(" + storm + ", " + known + ", true)", most, () -> x.sea(storm, known, true));
    }

    private static void flood(HutRow x, int sea, int known, int sure, int may) {
        Check.due("flood(" + sea + ", " + known + ", false)", sure, () -> x.flood(sea, known, false));
        Check.due("flood(" + sea + ", " + known + ", true)", may, () -> x.flood(sea, known, true));
    }

    private static void lines() {
        HutRow x = huts(2);
        level(x, 0, 1980, 0, 99);
        Check.does("line", () -> x.line(0, 10, 20));
        level(x, 0, 1980, 10, 20);
        // A line is not told in a year: it holds as known in any.
        level(x, 0, 1900, 10, 20);
        Check.does("line of one height", () -> x.line(0, 7, 7));
        level(x, 0, 1980, 7, 7);
        Check.does("line", () -> x.line(0, 0, 99));
        level(x, 0, 1980, 0, 99);
        x.line(0, 10, 20);
        flood(x, 0, 1980, 0, 0);
        flood(x, 1, 1980, 0, 2);
        flood(x, 10, 1980, 0, 2);
        flood(x, 11, 1980, 0, 3);
        flood(x, 20, 1980, 0, 3);
        flood(x, 21, 1980, 1, 3);
        flood(x, 99, 1980, 1, 3);
        flood(x, 100, 1980, 3, 3);
    }

    private static void oneStorm() {
        HutRow x = huts(3);
        x.line(0, 10, 20);
        x.line(1, 15, 30);
        Check.due("storm", 0, () -> x.storm(1970, 1));
        // The sea is above hut 0, not above 1 and 2.
        sea(x, 0, 1980, 11, 30);
        level(x, 0, 1980, 10, 20);
        level(x, 1, 1980, 15, 30);
        level(x, 2, 1980, 11, 99);
        flood(x, 12, 1980, 0, 5);
        flood(x, 11, 1980, 0, 1);
        Check.due("a storm that moved none", 1, () -> x.storm(1971, 0));
        sea(x, 1, 1980, 0, 20);
        Check.due("a storm that moved all", 2, () -> x.storm(1972, 7));
        sea(x, 2, 1980, 16, 100);
    }

    private static void storms() {
        HutRow x = huts(2);
        x.storm(1970, 0);
        sea(x, 0, 1980, 0, 99);
        HutRow y = huts(0);
        y.storm(1970, 0);
        sea(y, 0, 1980, 0, 100);
        HutRow z = huts(1);
        z.storm(1970, 1);
        sea(z, 0, 1980, 1, 100);
        level(z, 0, 1980, 0, 99);
        z.line(0, 99, 99);
        sea(z, 0, 1980, 100, 100);
        z.storm(1971, 0);
        sea(z, 1, 1980, 0, 99);
    }

    private static void chains() {
        // Storm i moved the huts below i: the lines go up one by one.
        HutRow x = huts(10);
        for (int i = 0; i < 10; i++) {
            x.storm(1970, (1 << i) - 1);
        }
        for (int i = 0; i < 10; i++) {
            level(x, i, 1980, i, 90 + i);
            sea(x, i, 1980, i, 90 + i);
        }
        x.line(4, 50, 50);
        level(x, 3, 1980, 3, 49);
        level(x, 5, 1980, 51, 95);
        level(x, 9, 1980, 55, 99);
        sea(x, 4, 1980, 4, 50);
        sea(x, 5, 1980, 51, 95);
    }

    private static void noRows() {
        HutRow x = huts(2);
        x.storm(1970, 1);
        level(x, 1, 1980, 1, 99);
        x.storm(1971, 2);
        // 0 lies below 1, and 1 below 0.
        for (int i = 0; i < 2; i++) {
            level(x, i, 1980, -1, -1);
            sea(x, i, 1980, -1, -1);
        }
        flood(x, 50, 1980, -1, -1);
        level(x, 0, 1979, 0, 99);
        HutRow y = huts(2);
        y.line(0, 50, 60);
        y.line(1, 40, 50);
        y.storm(1970, 1);
        // The sea is above 50 and not above 50.
        sea(y, 0, 1980, -1, -1);
        flood(y, 0, 1980, -1, -1);
        y.line(0, 49, 60);
        sea(y, 0, 1980, 50, 50);
        level(y, 0, 1980, 49, 49);
        level(y, 1, 1980, 50, 50);
    }

    private static void asKnown() {
        HutRow x = huts(2);
        x.line(0, 10, 20);
        x.storm(1970, 1);
        x.years(5);
        x.storm(1960, 2);
        sea(x, 0, 1979, 0, 100);
        sea(x, 0, 1980, 11, 99);
        sea(x, 1, 1984, 0, 100);
        sea(x, 1, 1985, -1, -1);
        level(x, 1, 1979, 0, 99);
        level(x, 1, 1984, 11, 99);
        level(x, 1, 1985, -1, -1);
        flood(x, 11, 1979, 0, 3);
        flood(x, 11, 1984, 0, 1);
        flood(x, 11, 1985, -1, -1);
    }

    private static void laterHuts() {
        HutRow x = huts(1);
        x.line(0, 30, 30);
        x.storm(1970, 1);
        // A hut that is told later was not moved: it lies at least as high as the sea.
        x.hut(1, -1, 0);
        level(x, 1, 1980, 31, 99);
        sea(x, 0, 1980, 31, 99);
    }

    private static void manyStorms() {
        HutRow x = huts(2);
        for (int i = 0; i < 10; i++) {
            int number = i;
            Check.due("storm " + i, i, () -> x.storm(1900 + number * 20, number % 2));
        }
        Check.full("an 11th", () -> x.storm(1970, 3));
        Check.illegal("a wrong 11th", () -> x.storm(1970, 4));
        Check.outside("an 11th of no year", () -> x.storm(1899, 4));
        Check.due("ten", 10, () -> x.count(5));
    }

    private static void wrongAsks() {
        HutRow x = huts(2);
        Check.outside("line, no hut", () -> x.line(2, -1, 5));
        Check.outside("line, no hut", () -> x.line(-1, 0, 5));
        Check.illegal("low -1", () -> x.line(0, -1, 5));
        Check.illegal("high 100", () -> x.line(0, 5, 100));
        Check.illegal("low above high", () -> x.line(0, 6, 5));
        Check.illegal("both 100", () -> x.line(0, 100, 100));
        level(x, 0, 1980, 0, 99);
        Check.outside("storm, no year", () -> x.storm(1899, 99));
        Check.outside("storm, no year", () -> x.storm(2100, 0));
        Check.illegal("bits of no huts", () -> x.storm(1970, 4));
        Check.illegal("bits of no huts", () -> x.storm(1970, -1));
        Check.illegal("bits of no huts", () -> x.storm(1970, Integer.MIN_VALUE));
        Check.due("no storms", 0, () -> x.count(5));
        Check.outside("sea, no storm", () -> x.sea(0, 1980, true));
        x.storm(1970, 1);
        Check.outside("sea, no storm", () -> x.sea(1, 1980, true));
        Check.outside("sea, no storm", () -> x.sea(-1, 1980, true));
        Check.outside("sea, no year", () -> x.sea(0, 1899, true));
        Check.outside("sea, no year", () -> x.sea(0, 2100, false));
        Check.outside("level, no hut", () -> x.level(2, 1980, true));
        Check.outside("level, no year", () -> x.level(0, 1899, true));
        Check.outside("flood, no year", () -> x.flood(101, 1899, true));
        Check.outside("flood, no year", () -> x.flood(50, 2100, true));
        Check.illegal("flood 101", () -> x.flood(101, 1980, true));
        Check.illegal("flood -1", () -> x.flood(-1, 1980, false));
    }
}
