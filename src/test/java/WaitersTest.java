/** Promises 18 to 21: waits, order, freed, howLong. */
public final class WaitersTest {
    public static void main(String[] args) {
        waiters();
        orderWithoutText();
        orderByText();
        orderAsKnown();
        freed();
        howLong();
        Check.close();
    }

    private static void order(HutRow x, int year, int known, int... persons) {
        for (int i = 0; i < persons.length; i++) {
            int k = i + 1;
            Check.due("order(" + k + ", " + year + ", " + known + ")", persons[i], () -> x.order(k, year, known));
        }
        Check.due("order behind the last", -1, () -> x.order(persons.length + 1, year, known));
        Check.due("order(0)", -1, () -> x.order(0, year, known));
    }

    private static void waiters() {
        HutRow x = new HutRow();
        for (int i = 0; i < 12; i++) {
            x.person(1950, 0, true);
        }
        Check.outside("nobody", () -> x.waits(12, 1980));
        Check.outside("nobody", () -> x.waits(-1, 1980));
        Check.outside("no year", () -> x.waits(0, 1899));
        Check.outside("no year", () -> x.waits(0, 2100));
        for (int i = 0; i < 10; i++) {
            int person = i;
            Check.due("waits " + i, i + 1, () -> x.waits(person, 1900 + person * 22));
            Check.illegal("waits " + i + " already", () -> x.waits(person, 1900));
            Check.outside("waits already, no year", () -> x.waits(person, 1899));
        }
        Check.full("an 11th", () -> x.waits(10, 1980));
        Check.illegal("waits already, and there are 10", () -> x.waits(9, 1980));
        Check.due("ten", 10, () -> x.count(4));
        Check.outside("order, no year", () -> x.order(1, 1899, 1980));
        Check.outside("order, no year known", () -> x.order(1, 1980, 2100));
        Check.due("order of a negative", -1, () -> x.order(Integer.MIN_VALUE, 1980, 1980));
        Check.due("order of the most", -1, () -> x.order(Integer.MAX_VALUE, 1980, 1980));
    }

    private static void orderWithoutText() {
        HutRow x = new HutRow();
        for (int i = 0; i < 4; i++) {
            x.person(1950, 0, true);
        }
        order(x, 1980, 1980);
        x.waits(3, 1970);
        x.waits(2, 1960);
        x.waits(1, 1970);
        order(x, 1980, 1980, 2, 1, 3);
        order(x, 1969, 1980, 2);
        order(x, 1970, 1980, 2, 1, 3);
        order(x, 1959, 1980);
        // The one who waits is told today: before, none waits.
        order(x, 1980, 1979);
        x.event(1975, 0, 2, 0);
        order(x, 1974, 1980, 2, 1, 3);
        order(x, 1975, 1980, 1, 3);
    }

    private static void orderByText() {
        HutRow x = new HutRow();
        x.person(1950, 0, true);
        x.person(1930, 0, false);
        x.person(1990, 0, true);
        x.waits(0, 1960);
        x.waits(1, 1970);
        x.waits(2, 1980);
        x.event(1970, 3, 1, 0);
        Check.text(x, 2, "add 1*waited");
        order(x, 1980, 1980, 0, 1, 2);
        Check.text(x, 2, "less 1*waited");
        order(x, 1980, 1980, 2, 1, 0);
        Check.text(x, 2, "add 1*age");
        order(x, 1980, 1980, 1, 0, 2);
        Check.text(x, 2, "add 5*children; add 1 if local");
        order(x, 1980, 1980, 1, 0, 2);
        Check.text(x, 2, "add 5*children; add 5 if local");
        order(x, 1980, 1980, 0, 1, 2);
        Check.text(x, 2, "add 1*year; add 5 if not local");
        order(x, 1980, 1980, 1, 0, 2);
        // Nobody is younger than 0.
        Check.text(x, 2, "add 1 if age < 1");
        order(x, 1980, 1980, 2, 0, 1);
        Check.text(x, 2, "");
        order(x, 1980, 1980, 0, 1, 2);
        Check.text(x, 2, "add 9999*year" + ";add 9999*year".repeat(9));
        order(x, 2099, 1980, 0, 1, 2);
        Check.text(x, 2, "less 9999*year;add 1*waited" + ";less 9999*year".repeat(8));
        order(x, 2099, 1980, 0, 1, 2);
    }

    private static void orderAsKnown() {
        HutRow x = new HutRow();
        x.person(1950, 0, true);
        x.person(1930, 0, false);
        x.waits(0, 1970);
        x.years(2);
        x.waits(1, 1960);
        x.years(2);
        x.event(1975, 0, 1, 0);
        order(x, 1980, 1981, 0);
        order(x, 1980, 1982, 1, 0);
        order(x, 1980, 1984, 0);
        order(x, 1974, 1984, 1, 0);
    }

    private static void freed() {
        HutRow x = new HutRow();
        Check.illegal("freed(-1)", () -> x.freed(-1));
        Check.illegal("freed(10)", () -> x.freed(10));
        for (int i = 1; i <= 20; i++) {
            int n = i % 10;
            Check.due("freed " + i, i, () -> x.freed(n));
        }
        Check.full("a 21st", () -> x.freed(5));
        Check.illegal("a wrong 21st", () -> x.freed(10));
    }

    private static void howLong() {
        HutRow x = new HutRow();
        for (int k : new int[] {0, 11, -1, Integer.MAX_VALUE}) {
            Check.illegal("howLong(" + k + ")", () -> x.howLong(k, true));
        }
        Check.due("none told", -1, () -> x.howLong(1, false));
        Check.due("none told", -1, () -> x.howLong(10, true));
        x.freed(3);
        howLong(x, 10, 4, 4);
        howLong(x, 9, 3, 3);
        howLong(x, 1, 1, 1);
        x.freed(7);
        x.freed(2);
        howLong(x, 10, 2, 5);
        howLong(x, 7, 1, 4);
        howLong(x, 8, 2, 4);
        x.freed(0);
        howLong(x, 10, 2, -1);
        HutRow z = new HutRow();
        z.freed(1);
        howLong(z, 10, 10, 10);
        HutRow y = new HutRow();
        y.freed(0);
        howLong(y, 1, -1, -1);
        y.freed(9);
        howLong(y, 10, 2, -1);
        howLong(y, 9, 1, -1);
    }

    private static void howLong(HutRow x, int k, int least, int most) {
        Check.due("howLong(" + k + ", false)", least, () -> x.howLong(k, false));
        Check.due("howLong(" + k + ", true)", most, () -> x.howLong(k, true));
    }
}
