/** Promises 8, 10, 11, 12 and 13: hut, sale, holder, since, place; and RIGHTS. */
public final class HoldersTest {
    public static void main(String[] args) {
        huts();
        wrongSales();
        sales();
        given();
        withoutRights();
        rightsInTurn();
        rightsByFacts();
        rightsOfManyHuts();
        toldLate();
        moves();
        wrongAsks();
        Check.close();
    }

    private static HutRow people(int... born) {
        HutRow x = new HutRow();
        for (int i = 0; i < born.length; i++) {
            x.person(born[i], 100 * i, i % 2 == 0);
        }
        return x;
    }

    private static void held(HutRow x, int hut, int year, int known, int holder, int since) {
        String at = "(" + hut + ", " + year + ", " + known + ")";
        Check.due("holder" + at, holder, () -> x.holder(hut, year, known));
        Check.due("since" + at, since, () -> x.since(hut, year, known));
    }

    private static void row(HutRow x, int year, int known, int... huts) {
        for (int i = 0; i < huts.length; i++) {
            int hut = huts[i];
            Check.due("place(" + hut + ", " + year + ", " + known + ")", i, () -> x.place(hut, year, known));
        }
    }

    private static void huts() {
        HutRow x = people(1950);
        Check.outside("nobody holds", () -> x.hut(1, 1, 0));
        Check.outside("nobody holds", () -> x.hut(1, -2, 0));
        Check.outside("nobody holds, ahead of size", () -> x.hut(0, 1, 99));
        Check.illegal("size 0", () -> x.hut(0, 0, 0));
        Check.illegal("size 10", () -> x.hut(10, 0, 0));
        Check.illegal("weeks -1", () -> x.hut(1, 0, -1));
        Check.illegal("weeks 21", () -> x.hut(1, -1, 21));
        Check.due("no huts", 0, () -> x.count(1));
        for (int i = 0; i < 10; i++) {
            int number = i;
            Check.due("hut " + i, i, () -> x.hut(number % 2 == 0 ? 1 : 9, number % 3 == 0 ? -1 : 0, number * 2));
        }
        Check.full("an 11th", () -> x.hut(5, 0, 5));
        Check.illegal("a wrong 11th", () -> x.hut(0, 0, 5));
        Check.outside("an 11th of nobody", () -> x.hut(0, 5, 5));
        Check.due("ten", 10, () -> x.count(1));
        Check.due("six are held", 6, () -> x.count(9));
        row(x, 1900, 1900, 0, 1, 2, 3, 4, 5, 6, 7, 8, 9);
        held(x, 0, 1900, 1900, -1, -1);
        held(x, 1, 1900, 1900, 0, 1900);
        held(x, 1, 2099, 1979, 0, 1900);
    }

    private static void wrongSales() {
        HutRow x = people(1950, 1951);
        x.hut(1, 0, 0);
        Check.outside("no year", () -> x.sale(1899, 0, 1, -1));
        Check.outside("no year", () -> x.sale(2100, 0, 1, 0));
        Check.outside("no hut", () -> x.sale(1950, 1, 1, -1));
        Check.outside("no hut", () -> x.sale(1950, -1, 1, 0));
        Check.outside("nobody", () -> x.sale(1950, 0, 2, -1));
        Check.outside("nobody", () -> x.sale(1950, 0, -1, 0));
        Check.illegal("price -1", () -> x.sale(1950, 0, 1, -1));
        Check.illegal("price 10000", () -> x.sale(1950, 0, 1, 10000));
        Check.due("nothing told", 0, () -> x.count(2));
        Check.due("price 9999", 1, () -> x.sale(1950, 0, 1, 9999));
        Check.due("price 0", 2, () -> x.sale(1950, 0, 1, 0));
    }

    private static void sales() {
        HutRow x = people(1900, 1901, 1902);
        x.hut(1, 0, 0);
        x.hut(1, -1, 0);
        x.sale(1950, 0, 1, 10);
        held(x, 0, 1949, 1980, 0, 1900);
        held(x, 0, 1950, 1980, 1, 1950);
        held(x, 0, 1950, 1979, 0, 1900);
        // A hut without a holder is not sold; nor to who holds it: since stays.
        x.sale(1950, 1, 1, 10);
        held(x, 1, 1980, 1980, -1, -1);
        x.sale(1955, 0, 1, 10);
        held(x, 0, 1955, 1980, 1, 1950);
        // Nor to one who has died.
        x.event(1960, 0, 2, 0);
        x.sale(1960, 0, 2, 10);
        held(x, 0, 1960, 1980, 1, 1950);
        x.sale(1959, 0, 2, 10);
        held(x, 0, 1959, 1980, 2, 1959);
        held(x, 0, 1960, 1980, -1, -1);
        Check.due("huts of 0 in 1930", 1, () -> x.about(0, 1930, 1980, 6));
        Check.due("huts of 0 in 1980", 0, () -> x.about(0, 1980, 1980, 6));
    }

    private static void given() {
        HutRow x = people(1900, 1901, 1902);
        x.hut(1, -1, 0);
        x.hut(1, 0, 0);
        x.event(1950, 5, 0, 1);
        held(x, 0, 1949, 1980, -1, -1);
        held(x, 0, 1950, 1980, 1, 1950);
        // One that has a holder is not given.
        x.event(1951, 5, 0, 2);
        x.event(1951, 5, 1, 2);
        held(x, 0, 1951, 1980, 1, 1950);
        held(x, 1, 1951, 1980, 0, 1900);
        // Nor to one who has died.
        x.event(1940, 0, 1, 0);
        held(x, 0, 1950, 1980, -1, -1);
        held(x, 0, 1951, 1980, 2, 1951);
    }

    private static void withoutRights() {
        HutRow x = people(1900, 1901);
        x.hut(1, 0, 0);
        x.event(1940, 1, 0, 1);
        x.event(1950, 0, 0, 0);
        held(x, 0, 1949, 1980, 0, 1900);
        held(x, 0, 1950, 1980, -1, -1);
        // A text is in force in all years, also in those gone by.
        Check.text(x, 0, "to spouse");
        held(x, 0, 1950, 1980, 1, 1950);
        held(x, 0, 2099, 1980, 1, 1950);
        Check.text(x, 0, "");
        held(x, 0, 1950, 1980, -1, -1);
        Check.text(x, 0, "to child");
        held(x, 0, 1950, 1980, -1, -1);
    }

    private static void rightsInTurn() {
        // 0 holds; 1 spouse; 2, 3 children (3 is the elder); 4, 5 parents; 6 a brother.
        HutRow x = people(1910, 1911, 1940, 1938, 1880 + 20, 1881 + 20, 1915);
        x.hut(1, 0, 0);
        x.event(1930, 1, 0, 1);
        x.event(1940, 3, 0, 2);
        x.event(1938, 3, 0, 3);
        x.event(1910, 3, 5, 0);
        x.event(1910, 3, 4, 0);
        x.event(1915, 3, 5, 6);
        x.event(1960, 0, 0, 0);
        String[] whom = {"spouse", "child", "parent", "brother"};
        int[] heirs = {1, 3, 4, 6};
        for (int i = 0; i < 4; i++) {
            Check.text(x, 0, "to " + whom[i]);
            held(x, 0, 1960, 1980, heirs[i], 1960);
        }
        Check.text(x, 0, "to brother if 1 < 1; to parent;to child");
        held(x, 0, 1960, 1980, 4, 1960);
        // The one who is not there is left out: the next line.
        Check.text(x, 0, "to spouse;to child;to brother");
        x.event(1959, 2, 0, 1);
        held(x, 0, 1960, 1980, 3, 1960);
        x.event(1958, 0, 3, 0);
        held(x, 0, 1960, 1980, 2, 1960);
        x.event(1958, 0, 2, 0);
        held(x, 0, 1960, 1980, 6, 1960);
        x.event(1958, 0, 6, 0);
        held(x, 0, 1960, 1980, -1, -1);
        // A parent who has died has living children.
        Check.text(x, 0, "to parent");
        x.event(1958, 0, 4, 0);
        held(x, 0, 1960, 1980, 5, 1960);
        x.event(1960, 0, 5, 0);
        held(x, 0, 1960, 1980, -1, -1);
    }

    private static void rightsByFacts() {
        HutRow x = people(1910, 1911, 1940, 1941);
        x.hut(4, 1, 0);
        x.sale(1920, 0, 0, 1);
        x.event(1930, 1, 0, 1);
        x.event(1940, 3, 0, 2);
        x.event(1941, 3, 0, 3);
        x.event(1955, 0, 3, 0);
        x.event(1960, 0, 0, 0);
        holdsFor(x, "held > 39 and held < 41", true);
        holdsFor(x, "age > 49 and age < 51", true);
        holdsFor(x, "children > 0 and children < 2", true);
        holdsFor(x, "year > 1959 and year < 1961", true);
        holdsFor(x, "size > 3 and size < 5", true);
        holdsFor(x, "local", true);
        holdsFor(x, "not local", false);
        holdsFor(x, "held + age + children + year + size > 2054", true);
        holdsFor(x, "held + age + children + year + size > 2055", false);
        holdsFor(x, "1 < 1", false);
        holdsFor(x, "1 > 1", false);
        holdsFor(x, "1 < 2 or 1 > 2 and 1 > 2", true);
        holdsFor(x, "(1 < 2 or 1 > 2) and 1 > 2", false);
        holdsFor(x, "1 > 2 and 1 > 2 or 1 < 2", true);
        holdsFor(x, "not 1 > 2 and 1 < 2", true);
        holdsFor(x, "not (1 > 2 and 1 < 2)", true);
        holdsFor(x, "not 1 < 2 or 1 < 2", true);
        holdsFor(x, "not (1 < 2 or 1 < 2)", false);
        holdsFor(x, "not not local", true);
        holdsFor(x, "1 < 2 or (1 > 2)", true);
        holdsFor(x, "1 > 2 and (1 < 2)", false);
        holdsFor(x, "1 > 2 and (1 < 2 or 1 < 2) or (1 > 2 or local and not (1 > 2))", true);
        // Of the other one, who is not local and dies a baby of age 0.
        HutRow y = people(1910, 1950);
        y.hut(1, 1, 0);
        y.event(1920, 1, 0, 1);
        y.event(1930, 0, 1, 0);
        Check.text(y, 0, "to spouse if age < 1 and not local");
        held(y, 0, 1930, 1980, 0, 1930);
        Check.text(y, 0, "to spouse if age > 0 or local");
        held(y, 0, 1930, 1980, -1, -1);
    }

    private static void holdsFor(HutRow x, String condition, boolean holds) {
        Check.text(x, 0, "to spouse if " + condition);
        Check.due("to spouse if " + condition, holds ? 1 : -1, () -> x.holder(0, 1960, 1980));
    }

    private static void rightsOfManyHuts() {
        HutRow x = people(1910, 1911, 1940);
        x.hut(4, 0, 0);
        x.hut(7, 1, 0);
        x.hut(9, 0, 0);
        x.event(1930, 1, 0, 1);
        x.event(1940, 3, 0, 2);
        x.event(1960, 0, 0, 0);
        x.event(1970, 0, 1, 0);
        Check.text(x, 0, "to child if size > 5; to spouse");
        held(x, 0, 1960, 1980, 1, 1960);
        held(x, 1, 1960, 1980, 1, 1900);
        held(x, 2, 1960, 1980, 2, 1960);
        // 1 dies: the spouse has died before, and the child is of the other one alone.
        held(x, 0, 1970, 1980, -1, -1);
        held(x, 1, 1970, 1980, -1, -1);
        held(x, 2, 1970, 1980, 2, 1960);
        Check.due("huts of 2", 4, () -> x.about(2, 1980, 1980, 6));
        // The one that it went on to hands it on in turn.
        x.event(1941, 3, 1, 2);
        held(x, 0, 1970, 1980, -1, -1);
        held(x, 1, 1970, 1980, 2, 1970);
    }

    private static void toldLate() {
        HutRow x = people(1910, 1911, 1912);
        x.hut(1, 0, 0);
        Check.text(x, 0, "to spouse");
        x.event(1930, 1, 0, 1);
        x.event(1960, 0, 0, 0);
        x.years(2);
        x.event(1950, 0, 1, 0);
        x.years(2);
        x.event(1955, 1, 2, 0);
        held(x, 0, 1960, 1979, 0, 1900);
        held(x, 0, 1960, 1980, 1, 1960);
        held(x, 0, 1960, 1981, 1, 1960);
        held(x, 0, 1960, 1982, -1, -1);
        held(x, 0, 1960, 1983, -1, -1);
        held(x, 0, 1960, 1984, 2, 1960);
        held(x, 0, 1959, 1984, 0, 1900);
    }

    private static void moves() {
        HutRow x = people(1910);
        for (int i = 0; i < 5; i++) {
            x.hut(1, -1, 0);
        }
        x.event(1950, 6, 1, 3);
        row(x, 1949, 1980, 0, 1, 2, 3, 4);
        row(x, 1950, 1980, 0, 2, 3, 1, 4);
        x.event(1951, 6, 4, 0);
        row(x, 1951, 1980, 4, 0, 2, 3, 1);
        x.event(1952, 6, 4, 4);
        row(x, 1952, 1980, 0, 2, 3, 1, 4);
        x.event(1953, 6, 2, 1);
        row(x, 1953, 1980, 0, 2, 3, 1, 4);
        // A hut that comes later stands last at first, ahead of all events.
        x.hut(1, -1, 0);
        row(x, 1949, 1980, 0, 1, 2, 3, 4, 5);
        row(x, 1951, 1980, 4, 0, 2, 3, 1, 5);
        row(x, 1952, 1980, 0, 2, 3, 1, 4, 5);
        x.event(1952, 6, 0, 5);
        row(x, 1952, 1980, 2, 3, 1, 4, 5, 0);
        row(x, 1952, 1979, 0, 1, 2, 3, 4, 5);
        // Told late, of a year before: all that follows goes otherwise.
        x.years(1);
        x.event(1949, 6, 5, 0);
        row(x, 1950, 1980, 0, 2, 3, 1, 4, 5);
        row(x, 1950, 1981, 5, 0, 2, 1, 3, 4);
    }

    private static void wrongAsks() {
        HutRow x = people(1910);
        x.hut(1, 0, 0);
        int[][] wrong = {{1, 1980, 1980}, {-1, 1980, 1980}, {0, 1899, 1980}, {0, 2100, 1980}, {0, 1980, 1899},
            {0, 1980, 2100}};
        for (int[] n : wrong) {
            Check.outside("holder", () -> x.holder(n[0], n[1], n[2]));
            Check.outside("since", () -> x.since(n[0], n[1], n[2]));
            Check.outside("place", () -> x.place(n[0], n[1], n[2]));
        }
        held(x, 0, 1900, 2099, 0, 1900);
        held(x, 0, 2099, 1900, 0, 1900);
    }
}
