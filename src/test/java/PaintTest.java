/** Promises 36 to 39: photo, allowed, breaches, painted. */
public final class PaintTest {
    public static void main(String[] args) {
        photos();
        allowed();
        breaches();
        painted();
        wrongAsks();
        Check.close();
    }

    private static HutRow huts(int... sizes) {
        HutRow x = new HutRow();
        for (int size : sizes) {
            x.hut(size, -1, 0);
        }
        return x;
    }

    private static void photos() {
        HutRow x = huts(1, 1);
        Check.outside("no hut", () -> x.photo(2, 1950, 9));
        Check.outside("no hut", () -> x.photo(-1, 1950, 0));
        Check.outside("no year", () -> x.photo(0, 1899, 9));
        Check.outside("no year", () -> x.photo(0, 2100, 0));
        Check.illegal("colour -1", () -> x.photo(0, 1950, -1));
        Check.illegal("colour 8", () -> x.photo(0, 1950, 8));
        for (int i = 1; i <= 20; i++) {
            int n = i;
            Check.due("photo " + i, i, () -> x.photo(n % 2, 1900 + n * 7 % 200, n % 8));
        }
        Check.full("a 21st", () -> x.photo(0, 1950, 0));
        Check.illegal("a wrong 21st", () -> x.photo(0, 1950, 8));
        Check.outside("a 21st of no hut", () -> x.photo(2, 1950, 8));
        Check.due("twenty", 20, () -> x.count(7));
    }

    private static void allowed() {
        HutRow x = huts(3, 7);
        Check.due("without a text", 255, () -> x.allowed(0, 1980));
        Check.text(x, 3, "allow 0;allow 3;allow 7 if size > 5;allow 2 if place < 1;allow 1 if year > 1959");
        Check.due("of 0 in 1959", 1 | 8 | 4, () -> x.allowed(0, 1959));
        Check.due("of 0 in 1960", 1 | 8 | 4 | 2, () -> x.allowed(0, 1960));
        Check.due("of 1 in 1959", 1 | 8 | 128, () -> x.allowed(1, 1959));
        x.event(1950, 6, 1, 0);
        Check.due("of 0 in 1949", 1 | 8 | 4, () -> x.allowed(0, 1949));
        Check.due("of 0 in 1950", 1 | 8, () -> x.allowed(0, 1950));
        Check.due("of 1 in 1950", 1 | 8 | 4 | 128, () -> x.allowed(1, 1950));
        Check.text(x, 3, "allow 5;allow 5 if 1 < 2;allow 6 if 2 < 1");
        Check.due("one colour twice", 32, () -> x.allowed(0, 1980));
        // An empty text is one: no line of it holds.
        Check.text(x, 3, "  ");
        Check.due("by an empty text", 0, () -> x.allowed(0, 1980));
    }

    private static void breaches() {
        HutRow x = huts(3, 7);
        x.photo(0, 1960, 1);
        x.photo(0, 1950, 1);
        x.photo(0, 1955, 2);
        x.photo(1, 1950, 2);
        Check.due("without a text", 0, () -> x.breaches(0));
        Check.text(x, 3, "allow 1 if year < 1955; allow 2 if place < 1");
        Check.due("of 0", 1, () -> x.breaches(0));
        Check.due("of 1", 1, () -> x.breaches(1));
        // The row as known now, in the year of the photograph.
        x.event(1952, 6, 1, 0);
        Check.due("of 0, moved", 2, () -> x.breaches(0));
        Check.due("of 1, moved", 1, () -> x.breaches(1));
        x.event(1950, 6, 1, 0);
        Check.due("of 1, moved before", 0, () -> x.breaches(1));
        Check.text(x, 3, "");
        Check.due("of 0, nothing is allowed", 3, () -> x.breaches(0));
    }

    private static void painted() {
        HutRow x = huts(3, 7);
        Check.due("no photographs", 0, () -> x.painted(0));
        x.photo(0, 1960, 1);
        Check.due("one", 0, () -> x.painted(0));
        x.photo(0, 1970, 1);
        Check.due("two alike", 0, () -> x.painted(0));
        x.photo(0, 1965, 2);
        Check.due("another one between", 2, () -> x.painted(0));
        x.photo(1, 1962, 3);
        x.photo(1, 1963, 4);
        Check.due("of the other hut", 1, () -> x.painted(1));
        Check.due("not of this one", 2, () -> x.painted(0));
        // Of one year as told: 1 (1960), then 5 and 1 of 1960, then 2, 1.
        x.photo(0, 1960, 5);
        Check.due("1 5 2 1", 3, () -> x.painted(0));
        x.photo(0, 1960, 1);
        Check.due("1 5 1 2 1", 4, () -> x.painted(0));
        x.photo(0, 1900, 0);
        Check.due("0 1 5 1 2 1", 5, () -> x.painted(0));
        x.photo(0, 2099, 1);
        Check.due("0 1 5 1 2 1 1", 5, () -> x.painted(0));
    }

    private static void wrongAsks() {
        HutRow x = huts(3);
        Check.outside("allowed, no hut", () -> x.allowed(1, 1980));
        Check.outside("allowed, no hut", () -> x.allowed(-1, 1980));
        Check.outside("allowed, no year", () -> x.allowed(0, 1899));
        Check.outside("allowed, no year", () -> x.allowed(0, 2100));
        Check.outside("breaches, no hut", () -> x.breaches(1));
        Check.outside("breaches, no hut", () -> x.breaches(-1));
        Check.outside("painted, no hut", () -> x.painted(1));
        Check.outside("painted, no hut", () -> x.painted(-1));
    }
}
