/** Promises 6, 7, 9 and 14: years, person, event, about. */
public final class PeopleTest {
    public static void main(String[] args) {
        years();
        persons();
        wrongEvents();
        manyEvents();
        spouses();
        families();
        deaths();
        knownLate();
        ofOneYear();
        wrongAbout();
        Check.close();
    }

    /** People with the years told; locals are those of even numbers. */
    private static HutRow people(int... born) {
        HutRow x = new HutRow();
        for (int i = 0; i < born.length; i++) {
            x.person(born[i], 100 * i, i % 2 == 0);
        }
        return x;
    }

    private static void about(HutRow x, int person, int year, int known, int what, int want) {
        Check.due("about(" + person + ", " + year + ", " + known + ", " + what + ")", want,
            () -> x.about(person, year, known, what));
    }

    private static void years() {
        HutRow x = new HutRow();
        Check.due("years(0)", 1980, () -> x.years(0));
        Check.due("years(5)", 1985, () -> x.years(5));
        Check.illegal("years(-1)", () -> x.years(-1));
        Check.illegal("years(115)", () -> x.years(115));
        Check.illegal("years(most)", () -> x.years(Integer.MAX_VALUE));
        Check.illegal("years(least)", () -> x.years(Integer.MIN_VALUE));
        Check.due("nothing changed", 1985, () -> x.count(3));
        Check.due("years(114)", 2099, () -> x.years(114));
        Check.illegal("years(1) in 2099", () -> x.years(1));
        Check.due("years(0) in 2099", 2099, () -> x.years(0));
    }

    private static void persons() {
        HutRow x = new HutRow();
        Check.illegal("born 1899", () -> x.person(1899, 0, true));
        Check.illegal("born 2100", () -> x.person(2100, 0, true));
        Check.illegal("limit -1", () -> x.person(1900, -1, true));
        Check.illegal("limit 10000", () -> x.person(1900, 10000, true));
        Check.due("nobody came", 0, () -> x.count(0));
        for (int i = 0; i < 12; i++) {
            int number = i;
            Check.due("person " + i, i, () -> x.person(number % 2 == 0 ? 1900 : 2099, number % 2 * 9999, false));
        }
        Check.full("a 13th", () -> x.person(1950, 5, true));
        Check.illegal("a wrong 13th", () -> x.person(1950, -5, true));
        Check.due("twelve", 12, () -> x.count(0));
    }

    private static void wrongEvents() {
        HutRow x = people(1950, 1951);
        x.hut(1, 0, 0);
        x.hut(1, 0, 0);
        Check.outside("year 1899", () -> x.event(1899, 0, 0, 0));
        Check.outside("year 2100", () -> x.event(2100, 0, 0, 0));
        Check.outside("year ahead of kind", () -> x.event(2100, 99, 0, 0));
        for (int kind : new int[] {-1, 4, 7, Integer.MIN_VALUE, Integer.MAX_VALUE}) {
            Check.illegal("kind " + kind, () -> x.event(1950, kind, 0, 1));
            Check.illegal("kind " + kind + " of nobody", () -> x.event(1950, kind, 99, -99));
        }
        Check.outside("nobody died", () -> x.event(1950, 0, 2, 0));
        Check.outside("nobody died", () -> x.event(1950, 0, -1, 0));
        for (int kind = 1; kind <= 3; kind++) {
            int one = kind;
            Check.outside("kind " + kind + ", a", () -> x.event(1950, one, 2, 0));
            Check.outside("kind " + kind + ", b", () -> x.event(1950, one, 0, -1));
            Check.outside("kind " + kind + ", both", () -> x.event(1950, one, 2, 2));
            Check.illegal("kind " + kind + ", one person", () -> x.event(1950, one, 1, 1));
        }
        Check.outside("no hut given", () -> x.event(1950, 5, 2, 0));
        Check.outside("given to nobody", () -> x.event(1950, 5, 0, 2));
        Check.outside("given to none", () -> x.event(1950, 5, 0, -1));
        Check.outside("no hut moved", () -> x.event(1950, 6, -1, 0));
        Check.outside("no such place", () -> x.event(1950, 6, 0, 2));
        Check.outside("no such place", () -> x.event(1950, 6, 0, -1));
        Check.due("nothing told", 0, () -> x.count(2));
        Check.due("died, b is anything", 1, () -> x.event(1950, 0, 0, Integer.MIN_VALUE));
        Check.due("given, a and b alike", 2, () -> x.event(1950, 5, 1, 1));
        Check.due("moved, a and b alike", 3, () -> x.event(1950, 6, 1, 1));
        Check.due("first year", 4, () -> x.event(1900, 1, 0, 1));
        Check.due("last year", 5, () -> x.event(2099, 1, 0, 1));
    }

    private static void manyEvents() {
        HutRow x = people(1950, 1951);
        x.hut(1, 0, 0);
        for (int i = 1; i <= 40; i++) {
            int many = i;
            Check.due("event " + i, i, () -> many % 2 == 0 ? x.event(1950, 1, 0, 1) : x.sale(1950, 0, 1, 5));
        }
        Check.full("a 41st", () -> x.event(1950, 1, 0, 1));
        Check.full("a 41st, a sale", () -> x.sale(1950, 0, 1, 5));
        Check.illegal("a wrong 41st", () -> x.event(1950, 1, 0, 0));
        Check.illegal("a wrong 41st of no kind", () -> x.event(1950, 8, 0, 0));
        Check.outside("a 41st of nobody", () -> x.event(1950, 1, 0, 5));
        Check.due("forty", 40, () -> x.count(2));
    }

    private static void spouses() {
        HutRow x = people(1920, 1921, 1922, 1923);
        x.event(1950, 1, 0, 1);
        about(x, 0, 1949, 1980, 1, -1);
        about(x, 0, 1950, 1980, 1, 1);
        about(x, 1, 1950, 1980, 1, 0);
        about(x, 2, 1950, 1980, 1, -1);
        // 1 weds 2: the latest of 0 is still 1.
        x.event(1955, 1, 2, 1);
        about(x, 0, 1955, 1980, 1, 1);
        about(x, 1, 1955, 1980, 1, 2);
        about(x, 2, 1955, 1980, 1, 1);
        // 0 and 1 part: of 1 the latest is 2, who stays.
        x.event(1960, 2, 1, 0);
        about(x, 0, 1960, 1980, 1, -1);
        about(x, 1, 1960, 1980, 1, 2);
        x.event(1961, 1, 0, 3);
        x.event(1962, 2, 0, 1);
        about(x, 0, 1962, 1980, 1, 3);
        x.event(1963, 2, 0, 3);
        about(x, 0, 1963, 1980, 1, -1);
        about(x, 3, 1963, 1980, 1, -1);
        // They wed again, and one dies: the dead has a spouse, who lives.
        x.event(1964, 1, 3, 0);
        x.event(1965, 0, 3, 0);
        about(x, 0, 1964, 1980, 1, 3);
        about(x, 0, 1965, 1980, 1, -1);
        about(x, 3, 1965, 1980, 1, 0);
        // One who died may part all the same.
        x.event(1966, 2, 3, 0);
        about(x, 3, 1966, 1980, 1, -1);
        // Parted ahead of the wedding: that tells nothing.
        x.event(1949, 2, 0, 1);
        about(x, 0, 1950, 1980, 1, 1);
    }

    private static void families() {
        HutRow x = people(1900, 1901, 1930, 1925, 1925, 1960);
        x.event(1925, 3, 0, 3);
        x.event(1926, 3, 1, 4);
        x.event(1930, 3, 0, 2);
        x.event(1931, 3, 1, 2);
        about(x, 0, 1924, 1980, 2, 0);
        about(x, 0, 1924, 1980, 3, -1);
        about(x, 0, 1980, 1980, 2, 2);
        about(x, 0, 1980, 1980, 3, 3);
        about(x, 1, 1980, 1980, 3, 4);
        about(x, 2, 1980, 1980, 4, 0);
        about(x, 2, 1930, 1980, 4, 0);
        about(x, 4, 1980, 1980, 4, 1);
        about(x, 0, 1980, 1980, 4, -1);
        // 3 and 4 are born in one year: the least number.
        about(x, 2, 1980, 1980, 5, 3);
        about(x, 3, 1980, 1980, 5, 2);
        about(x, 0, 1980, 1980, 5, -1);
        x.event(1932, 3, 0, 4);
        about(x, 0, 1980, 1980, 3, 3);
        about(x, 3, 1980, 1980, 5, 4);
        // A child told twice is one; one that is not born yet lives.
        x.event(1933, 3, 0, 4);
        about(x, 0, 1980, 1980, 2, 3);
        x.event(1950, 3, 2, 5);
        about(x, 2, 1950, 1980, 2, 1);
        about(x, 2, 1950, 1980, 3, 5);
    }

    private static void deaths() {
        HutRow x = people(1900, 1901, 1930, 1925, 1928);
        x.event(1925, 3, 0, 3);
        x.event(1928, 3, 0, 4);
        x.event(1930, 3, 0, 2);
        x.event(1930, 3, 1, 2);
        x.event(1950, 0, 0, 77);
        about(x, 0, 1949, 1980, 0, 1);
        about(x, 0, 1950, 1980, 0, 0);
        about(x, 0, 1950, 1980, 2, 3);
        about(x, 2, 1950, 1980, 4, 1);
        about(x, 3, 1950, 1980, 4, -1);
        about(x, 2, 1950, 1980, 5, 3);
        x.event(1960, 0, 3, 0);
        about(x, 0, 1960, 1980, 2, 2);
        about(x, 0, 1960, 1980, 3, 4);
        about(x, 2, 1960, 1980, 5, 4);
        about(x, 3, 1960, 1980, 5, 4);
        // One dies once: a second time, later or earlier.
        x.event(1970, 0, 3, 0);
        about(x, 3, 1965, 1980, 0, 0);
        x.event(1940, 0, 3, 0);
        about(x, 3, 1945, 1980, 0, 0);
        Check.due("two of five live not", 3, () -> x.count(8));
    }

    private static void knownLate() {
        HutRow x = people(1920, 1921);
        x.event(1950, 1, 0, 1);
        x.years(4);
        x.event(1960, 0, 1, 0);
        about(x, 1, 1960, 1983, 0, 1);
        about(x, 1, 1960, 1984, 0, 0);
        about(x, 0, 1960, 1983, 1, 1);
        about(x, 0, 1960, 1984, 1, -1);
        about(x, 0, 1960, 1979, 1, -1);
        about(x, 0, 1950, 1980, 1, 1);
        about(x, 1, 2099, 2099, 0, 0);
        // What is told of a year to come is known, and comes then.
        x.event(2000, 0, 0, 0);
        about(x, 0, 1999, 1984, 0, 1);
        about(x, 0, 2000, 1984, 0, 0);
        Check.due("living today", 1, () -> x.count(8));
    }

    private static void ofOneYear() {
        HutRow x = people(1920, 1921);
        x.event(1950, 2, 0, 1);
        x.event(1950, 1, 0, 1);
        about(x, 0, 1950, 1980, 1, 1);
        x.event(1950, 2, 0, 1);
        about(x, 0, 1950, 1980, 1, -1);
        // Told last, but of a year before.
        x.event(1949, 1, 0, 1);
        about(x, 0, 1949, 1980, 1, 1);
        about(x, 0, 1950, 1980, 1, -1);
    }

    private static void wrongAbout() {
        HutRow x = people(1920);
        x.hut(1, 0, 0);
        x.hut(1, -1, 0);
        x.hut(1, 0, 0);
        about(x, 0, 1980, 1980, 6, 5);
        Check.outside("nobody", () -> x.about(1, 1980, 1980, 0));
        Check.outside("nobody", () -> x.about(-1, 1980, 1980, 9));
        Check.outside("no year", () -> x.about(0, 1899, 1980, 0));
        Check.outside("no year known", () -> x.about(0, 1980, 2100, 9));
        Check.thrown("another what", "NoSuchElementException", () -> x.about(0, 1980, 1980, 7));
        Check.thrown("another what", "NoSuchElementException", () -> x.about(0, 1980, 1980, -1));
    }
}
