/** Promises 15, 16 and 17: rent, leaves, income. */
public final class RentsTest {
    public static void main(String[] args) {
        rents();
        rentInYears();
        leaves();
        income();
        largest();
        wrongAsks();
        Check.close();
    }

    private static void rent(HutRow x, int hut, int year, String text, int want) {
        Check.text(x, 1, text);
        Check.due("rent(" + hut + ", " + year + ") by '" + text + "'", want, () -> x.rent(hut, year, 1980));
    }

    private static void rents() {
        HutRow x = new HutRow();
        x.person(1950, 100, true);
        x.person(1951, 100, false);
        x.hut(4, 0, 20);
        x.hut(7, 1, 3);
        x.hut(9, -1, 5);
        Check.due("without a text", 0, () -> x.rent(0, 1980, 1980));
        rent(x, 0, 1980, "add 7", 7);
        rent(x, 0, 1980, "add 7;add 8;less 5", 10);
        rent(x, 0, 1980, "less 5;add 3", 0);
        rent(x, 0, 1980, "less 5;add 7", 2);
        rent(x, 0, 1980, "add 10*size", 40);
        rent(x, 1, 1980, "add 10*place", 10);
        rent(x, 0, 1980, "add 10*place", 0);
        rent(x, 0, 1980, "add 1*year", 1980);
        rent(x, 0, 1980, "add 2*weeks", 40);
        rent(x, 0, 1980, "add 1*held", 80);
        rent(x, 2, 1980, "add 1*held;add 1", 1);
        rent(x, 0, 1980, "add 100;less 2*weeks if local;less 1 if not local", 60);
        rent(x, 1, 1980, "add 100;less 2*weeks if local;less 1 if not local", 99);
        rent(x, 2, 1980, "add 100;less 2*weeks if local;less 1 if not local", 99);
        rent(x, 2, 1980, "add 5 if size>8 and place>1 and weeks>4 and held<1 and year>1979", 5);
    }

    private static void rentInYears() {
        HutRow x = new HutRow();
        x.person(1950, 100, true);
        x.person(1951, 100, false);
        x.hut(4, 0, 20);
        x.hut(5, 0, 20);
        Check.text(x, 1, "add 1*held;add 1000*place;add 5000 if local");
        x.sale(1960, 0, 1, 5);
        x.event(1965, 6, 0, 1);
        Check.due("1959", 5059, () -> x.rent(0, 1959, 1980));
        Check.due("1960", 0, () -> x.rent(0, 1960, 1980));
        Check.due("1964", 4, () -> x.rent(0, 1964, 1980));
        Check.due("1965", 1005, () -> x.rent(0, 1965, 1980));
        Check.due("1965, the other one", 5065, () -> x.rent(1, 1965, 1980));
        Check.due("1965 as known in 1979", 5065, () -> x.rent(0, 1965, 1979));
        Check.due("1900", 5000, () -> x.rent(0, 1900, 2099));
        Check.due("1965 again", 1005, () -> x.rent(0, 1965, 1980));
        Check.due("1959 again", 5059, () -> x.rent(0, 1959, 1980));
    }

    private static void leaves() {
        HutRow x = new HutRow();
        x.person(1950, 30, true);
        x.person(1951, 29, true);
        x.person(1951, 0, true);
        x.hut(1, 0, 0);
        x.hut(1, 1, 0);
        x.hut(1, -1, 0);
        x.hut(1, 2, 0);
        Check.due("no rents", 0, () -> x.leaves(1980, 9));
        Check.text(x, 1, "add 10");
        Check.due("leaves of 10", 8, () -> x.leaves(1980, 1));
        Check.due("leaves of 20", 8, () -> x.leaves(1980, 2));
        Check.due("leaves of 30", 10, () -> x.leaves(1980, 3));
        Check.due("leaves of 40", 11, () -> x.leaves(1980, 4));
        Check.due("leaves of 90", 11, () -> x.leaves(1900, 9));
        x.sale(1970, 3, 0, 0);
        Check.due("leaves in 1969", 8, () -> x.leaves(1969, 1));
        Check.due("leaves in 1970", 0, () -> x.leaves(1970, 1));
    }

    private static void income() {
        HutRow x = new HutRow();
        int[] limits = {30, 29, 0, 20, 40, 100};
        for (int limit : limits) {
            x.person(1950, limit, true);
        }
        x.hut(1, 0, 0);
        x.hut(2, 1, 0);
        x.hut(1, -1, 0);
        x.hut(3, 2, 0);
        Check.text(x, 1, "add 10*size");
        Check.due("none waits", 30, () -> x.income(1980, 1));
        Check.due("none waits, twice as high", 20, () -> x.income(1980, 2));
        x.waits(3, 1970);
        // The empty hut 2 is taken by the one who waits.
        Check.due("one waits", 40, () -> x.income(1980, 1));
        Check.due("one waits since 1970", 30, () -> x.income(1969, 1));
        x.waits(4, 1971);
        Check.due("two wait", 70, () -> x.income(1980, 1));
        // 2 times: 20 of hut 0; hut 1 asks 40: 4 takes it; hut 2 asks 20: 3; hut 3 asks 60: none is left.
        Check.due("two wait, twice as high", 80, () -> x.income(1980, 2));
        x.waits(5, 1972);
        Check.due("three wait, twice as high", 140, () -> x.income(1980, 2));
        // By the order of WAITS 5 is first: he takes hut 1, so that none is left for hut 3.
        Check.text(x, 2, "add 1 if waited < 9");
        Check.due("another order", 80, () -> x.income(1980, 2));
        Check.due("another order, not doubled", 70, () -> x.income(1980, 1));
        x.event(1975, 0, 5, 0);
        Check.due("he has died", 80, () -> x.income(1980, 2));
        // Hut 0 stays at 30; hut 1 asks 60, which none pays; 4 takes hut 2 for 30.
        Check.due("thrice", 60, () -> x.income(1980, 3));
        // While he lived, he paid 60 for hut 1.
        Check.due("thrice in 1972", 120, () -> x.income(1972, 3));
    }

    /** The highest that a text can tell: it must not run over. */
    private static void largest() {
        HutRow x = new HutRow();
        x.person(1950, 9999, true);
        x.hut(1, 0, 0);
        Check.text(x, 1, "add 9999*year" + ";add 9999*year".repeat(9));
        Check.due("rent", 209879010, () -> x.rent(0, 2099, 1980));
        Check.due("leaves", 1, () -> x.leaves(2099, 9));
        Check.due("income", 0, () -> x.income(2099, 9));
        Check.text(x, 1, "less 9999*year" + ";less 9999*year".repeat(9));
        Check.due("rent 0 at least", 0, () -> x.rent(0, 2099, 1980));
        Check.text(x, 1, "add 1111");
        Check.due("leaves of 9999", 0, () -> x.leaves(2099, 9));
        Check.due("income of 9999", 9999, () -> x.income(2099, 9));
    }

    private static void wrongAsks() {
        HutRow x = new HutRow();
        x.hut(1, -1, 0);
        Check.outside("no hut", () -> x.rent(1, 1980, 1980));
        Check.outside("no year", () -> x.rent(0, 1899, 1980));
        Check.outside("no year known", () -> x.rent(0, 1980, 2100));
        for (int times : new int[] {0, -1, 10, Integer.MAX_VALUE, Integer.MIN_VALUE}) {
            Check.illegal("leaves, times " + times, () -> x.leaves(1980, times));
            Check.illegal("income, times " + times, () -> x.income(1980, times));
            Check.outside("leaves, no year", () -> x.leaves(2100, times));
            Check.outside("income, no year", () -> x.income(1899, times));
        }
    }
}
