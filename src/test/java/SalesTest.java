/** Promises 22 and 23: toll, dodged. */
public final class SalesTest {
    public static void main(String[] args) {
        tolls();
        dodged();
        kin();
        kinThen();
        firstYear();
        largest();
        wrongAsks();
        Check.close();
    }

    private static HutRow people(int many) {
        HutRow x = new HutRow();
        for (int i = 0; i < many; i++) {
            x.person(1900 + i, 100, true);
        }
        return x;
    }

    private static void tolls() {
        HutRow x = people(4);
        x.hut(1, 0, 0);
        x.hut(1, 1, 0);
        x.hut(1, -1, 0);
        x.sale(1950, 0, 1, 199);
        x.sale(1950, 1, 2, 150);
        Check.due("none", 0, () -> x.toll(1950, 0));
        Check.due("1 of 100, each rounded down", 2, () -> x.toll(1950, 1));
        Check.due("a half", 99 + 75, () -> x.toll(1950, 50));
        Check.due("all", 349, () -> x.toll(1950, 100));
        Check.due("of another year", 0, () -> x.toll(1951, 100));
        // By these no hut came to another one.
        x.sale(1950, 2, 1, 1000);
        x.sale(1950, 0, 1, 1000);
        x.event(1949, 0, 3, 0);
        x.sale(1950, 0, 3, 1000);
        x.event(1950, 5, 2, 1);
        Check.due("sales that were none", 349, () -> x.toll(1950, 100));
        // A hut that is sold twice a year.
        x.sale(1950, 0, 2, 7);
        x.sale(1950, 0, 1, 8);
        Check.due("sold on", 349 + 15, () -> x.toll(1950, 100));
        // Told late: it was sold to 1 in 1940 already, so that the first sale was none.
        x.sale(1940, 0, 1, 500);
        Check.due("told late", 150 + 15, () -> x.toll(1950, 100));
        Check.due("of 1940", 500, () -> x.toll(1940, 100));
        x.sale(2050, 0, 2, 77);
        Check.due("of a year to come", 77, () -> x.toll(2050, 100));
    }

    private static void dodged() {
        HutRow x = people(3);
        x.hut(5, 0, 0);
        x.sale(1950, 0, 1, 99);
        Check.due("without rents", 0, () -> x.dodged(99));
        Check.text(x, 1, "add 10*size");
        Check.due("99 is not below 50", 0, () -> x.dodged(1));
        Check.due("99 is below 100", 1, () -> x.dodged(2));
        x.sale(1960, 0, 2, 100);
        Check.due("100 is not below 100", 1, () -> x.dodged(2));
        Check.due("both", 2, () -> x.dodged(3));
        // No sale: not counted.
        x.sale(1960, 0, 2, 0);
        Check.due("sales that were none", 2, () -> x.dodged(99));
        // The rent of the year before, not of the year: held begins anew with the sale.
        Check.text(x, 1, "add 1*held");
        Check.due("49 years", 0, () -> x.dodged(2));
        Check.due("99 below 3 times 49", 1, () -> x.dodged(3));
        Check.due("100 below 12 times 9", 2, () -> x.dodged(12));
        Check.due("100 not below 11 times 9", 1, () -> x.dodged(11));
        Check.text(x, 1, "add 5 if year > 1949");
        Check.due("the year before", 1, () -> x.dodged(99));
    }

    private static void kin() {
        // 0 holds; 1 spouse, 2 child, 3 parent, 4 brother, 5 child of the child, 6 child of the brother,
        // 7 parent of the parent, 8 nobody.
        HutRow x = people(9);
        for (int i = 0; i < 9; i++) {
            x.hut(5, 0, 0);
        }
        Check.text(x, 1, "add 10");
        x.event(1930, 1, 1, 0);
        x.event(1930, 3, 0, 2);
        x.event(1930, 3, 3, 0);
        x.event(1930, 3, 3, 4);
        x.event(1930, 3, 2, 5);
        x.event(1930, 3, 4, 6);
        x.event(1930, 3, 7, 3);
        for (int to = 1; to < 5; to++) {
            x.sale(1950, to, to, 0);
        }
        Check.due("all kin", 0, () -> x.dodged(1));
        x.sale(1950, 5, 5, 0);
        Check.due("the child's child", 1, () -> x.dodged(1));
        x.sale(1950, 6, 6, 0);
        Check.due("the brother's child", 2, () -> x.dodged(1));
        x.sale(1950, 7, 7, 0);
        Check.due("the parent's parent", 3, () -> x.dodged(1));
        x.sale(1950, 8, 8, 0);
        Check.due("another one", 4, () -> x.dodged(1));
        // The parent has died: his other child is kin all the same.
        x.event(1940, 0, 3, 0);
        Check.due("the parent has died, his sale is none", 4, () -> x.dodged(1));
    }

    private static void kinThen() {
        HutRow x = people(3);
        x.hut(5, 0, 0);
        Check.text(x, 1, "add 10");
        x.sale(1950, 0, 1, 0);
        x.event(1950, 1, 0, 1);
        Check.due("wed behind the sale of that year", 1, () -> x.dodged(1));
        x.event(1949, 1, 0, 1);
        Check.due("wed ahead", 0, () -> x.dodged(1));
        x.event(1949, 2, 0, 1);
        Check.due("parted ahead", 1, () -> x.dodged(1));
        // Kin of who held it then: the buyer sells on to his child.
        x.event(1955, 3, 1, 2);
        x.sale(1956, 0, 2, 0);
        Check.due("on to his child", 1, () -> x.dodged(1));
        x.sale(1957, 0, 0, 0);
        Check.due("and on to another one", 2, () -> x.dodged(1));
    }

    private static void firstYear() {
        HutRow x = people(3);
        x.hut(5, 0, 0);
        Check.text(x, 1, "add 10");
        x.sale(1900, 0, 1, 0);
        Check.due("no rent ahead of 1900", 0, () -> x.dodged(99));
        x.sale(1901, 0, 2, 0);
        Check.due("but in 1900", 1, () -> x.dodged(99));
    }

    private static void largest() {
        HutRow x = people(3);
        x.hut(5, 0, 0);
        x.sale(2099, 0, 1, 9999);
        Check.text(x, 1, "add 9999*year" + ";add 9999*year".repeat(9));
        for (int times = 1; times < 100; times++) {
            int many = times;
            Check.due("dodged(" + times + ")", 1, () -> x.dodged(many));
        }
    }

    private static void wrongAsks() {
        HutRow x = people(1);
        Check.outside("toll, no year", () -> x.toll(1899, 101));
        Check.outside("toll, no year", () -> x.toll(2100, 5));
        Check.illegal("toll, 101", () -> x.toll(1980, 101));
        Check.illegal("toll, -1", () -> x.toll(1980, -1));
        Check.illegal("dodged(0)", () -> x.dodged(0));
        Check.illegal("dodged(-1)", () -> x.dodged(-1));
        Check.illegal("dodged(100)", () -> x.dodged(100));
    }
}
