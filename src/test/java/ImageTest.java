/** Promises 42, 43 and 44: image, back, count. */
public final class ImageTest {
    public static void main(String[] args) {
        noImage();
        backToAll();
        backTwice();
        tapeAndFault();
        emptyImage();
        texts();
        counts();
        Check.close();
    }

    private static void noImage() {
        HutRow x = new HutRow();
        x.person(1950, 0, true);
        Check.due("back without an image", false, x::back);
        Check.due("nothing happened", 1, () -> x.count(0));
    }

    /** All that can be told, once. */
    private static void tell(HutRow x) {
        x.years(3);
        x.person(1950, 50, true);
        x.person(1951, 60, true);
        x.hut(5, 0, 3);
        x.hut(6, 1, 3);
        x.event(1970, 1, 0, 1);
        x.sale(1971, 0, 1, 100);
        x.event(1972, 6, 0, 1);
        x.waits(0, 1975);
        x.freed(4);
        x.wind(0, 9);
        x.line(0, 10, 20);
        x.storm(1960, 1);
        x.lost(0, 1, 3);
        x.plank(8, 0, 9);
        x.photo(0, 1960, 2);
        x.photo(0, 1961, 3);
        x.thief(10);
        x.thief(17);
        Check.text(x, 0, "to spouse");
        Check.text(x, 1, "add 10*size");
        Check.text(x, 2, "add 1*waited");
        Check.text(x, 3, "allow 2");
    }

    /** Other things of all kinds. */
    private static void change(HutRow x) {
        x.years(2);
        x.person(1952, 70, false);
        x.hut(1, 2, 0);
        x.event(1973, 0, 1, 0);
        x.sale(1972, 0, 2, 1);
        x.event(1974, 6, 0, 0);
        x.waits(2, 1940);
        x.freed(1);
        x.wind(0, 0);
        x.wind(1, 9);
        x.line(0, 0, 5);
        x.line(1, 9, 9);
        x.storm(1961, 0);
        x.lost(0, 4, 0);
        x.plank(1, 0, 0);
        x.photo(0, 1959, 7);
        x.thief(18);
        Check.text(x, 0, "");
        Check.text(x, 1, "add 3");
        Check.text(x, 2, "less 1*waited");
        Check.text(x, 3, "");
    }

    private static String told(HutRow x) {
        StringBuilder told = new StringBuilder();
        for (int what = 0; what < 10; what++) {
            told.append(x.count(what)).append(' ');
        }
        for (int year = 1969; year < 1980; year++) {
            told.append(x.holder(0, year, 2099)).append(x.since(0, year, 2099)).append(x.place(0, year, 2099));
            told.append(x.about(0, year, 2099, 1)).append(x.rent(0, year, 2099)).append(x.leaves(year, 2));
            told.append(x.income(year, 1)).append(x.order(1, year, 2099)).append(x.toll(year, 50)).append(' ');
        }
        told.append(x.howLong(3, true)).append(x.dodged(50)).append(x.lift(7, 1, 0, -1)).append(' ');
        told.append(x.crane(3, 0, 1, true)).append(x.sea(0, 2099, true)).append(x.level(0, 2099, false)).append(' ');
        told.append(x.flood(15, 2099, true)).append(x.rows()).append(x.whose(0)).append(x.allowed(0, 1960));
        told.append(x.breaches(0)).append(x.painted(0)).append(x.thieves(true));
        return told.toString();
    }

    private static void backToAll() {
        HutRow x = new HutRow();
        tell(x);
        String first = told(x);
        x.image();
        Check.due("an image changes nothing", first, () -> told(x));
        change(x);
        Check.isTrue("all is changed", !first.equals(told(x)));
        Check.due("back", true, x::back);
        Check.due("all is as it was", first, () -> told(x));
        // What is told behind that is told as if it had not been before.
        change(x);
        String second = told(x);
        HutRow y = new HutRow();
        tell(y);
        change(y);
        Check.due("told anew", told(y), () -> second);
    }

    private static void backTwice() {
        HutRow x = new HutRow();
        tell(x);
        x.image();
        String first = told(x);
        change(x);
        String second = told(x);
        x.back();
        Check.due("the image stays", true, x::back);
        Check.due("back twice", first, () -> told(x));
        change(x);
        x.image();
        x.person(1950, 0, true);
        x.back();
        Check.due("there is one image, the latest", second, () -> told(x));
    }

    private static void tapeAndFault() {
        HutRow x = new HutRow();
        Check.illegal("a wrong text", () -> Check.text(x, 0, "to parrot"));
        x.feed(1, 2, 3, 4, 5);
        x.image();
        x.feed(1, 2, 3, 4, 5);
        x.back();
        Check.due("the tape stays", true, () -> x.end(40));
        x.end(0);
        Check.illegal("a wrong text", () -> Check.text(x, 0, "to child if"));
        x.back();
        Check.due("fault stays", 11, x::fault);
        Check.due("the tape is used up", false, () -> x.end(1));
    }

    private static void emptyImage() {
        HutRow x = new HutRow();
        x.image();
        tell(x);
        Check.due("back", true, x::back);
        int[] counts = {0, 0, 0, 1980, 0, 0, 0, 0, 0, 0};
        for (int i = 0; i < counts.length; i++) {
            int what = i;
            Check.due("count(" + i + ")", counts[i], () -> x.count(what));
        }
        Check.due("thieves", -1, () -> x.thieves(false));
        Check.due("howLong", -1, () -> x.howLong(1, true));
        x.hut(9, -1, 0);
        Check.due("wind is calm again", 0, () -> x.crane(1, 0, 1, true));
        Check.due("a line of a hut anew", 99, () -> x.level(0, 1980, true));
        Check.due("no paint text", 255, () -> x.allowed(0, 1980));
        Check.due("no rents text", 0, () -> x.rent(0, 1980, 1980));
        // What was told of an earlier hut 0 is gone.
        x.plank(8, 0, 9);
        Check.due("it has lost nothing", 0, x::rows);
    }

    private static void texts() {
        HutRow x = new HutRow();
        x.hut(9, -1, 0);
        Check.text(x, 1, "add 5");
        x.image();
        Check.text(x, 1, "add 6;add 7");
        Check.due("13", 13, () -> x.rent(0, 1980, 1980));
        x.back();
        Check.due("5", 5, () -> x.rent(0, 1980, 1980));
        // All sorts, to none that there was before.
        HutRow y = new HutRow();
        y.person(1900, 0, true);
        y.person(1900, 0, true);
        y.hut(1, 0, 0);
        y.event(1950, 1, 0, 1);
        y.event(1960, 0, 0, 0);
        y.image();
        Check.text(y, 0, "to spouse");
        Check.text(y, 1, "add 5");
        Check.text(y, 3, "allow 3");
        Check.due("to spouse", 1, () -> y.holder(0, 1980, 1980));
        y.back();
        Check.due("no rights", -1, () -> y.holder(0, 1980, 1980));
        Check.due("no rents", 0, () -> y.rent(0, 1980, 1980));
        Check.due("no paint", 255, () -> y.allowed(0, 1980));
    }

    private static void counts() {
        HutRow x = new HutRow();
        tell(x);
        int[] counts = {2, 2, 3, 1983, 1, 1, 1, 2, 2, 2};
        for (int i = 0; i < counts.length; i++) {
            int what = i;
            Check.due("count(" + i + ")", counts[i], () -> x.count(what));
        }
        for (int what : new int[] {-1, 10, Integer.MIN_VALUE, Integer.MAX_VALUE}) {
            Check.due("count(" + what + ")", -1, () -> x.count(what));
        }
        // Told of next year: it comes then.
        Check.text(x, 0, "");
        x.event(1984, 0, 1, 0);
        Check.due("living this year", 2, () -> x.count(8));
        Check.due("held this year", 2, () -> x.count(9));
        x.years(1);
        Check.due("living next year", 1, () -> x.count(8));
        Check.due("held next year", 0, () -> x.count(9));
    }
}
