import java.util.Random;
import java.util.function.Supplier;

/**
 * Long runs of calls, each made of the program and of the plain model: both must answer alike. The numbers
 * come from fixed seeds, so that every run of this test is the same.
 */
public final class ModelTest {
    private static final String[][] FACTS = {{"held", "age", "children", "year", "size"},
        {"size", "place", "year", "weeks", "held"}, {"waited", "age", "children", "year"},
        {"size", "place", "year"}};
    private static final String[] THINGS = {"to", "if", "spouse", "child", "parent", "brother", "add", "less",
        "allow", "or", "and", "not", "local", "held", "age", "children", "year", "size", "place", "weeks", "waited",
        "(", ")", "<", ">", "+", "*", ";", "0", "7", "8", "12345", "01234", "-", "\u00e9", "X", "\u0000", "  "};

    private final Random random;
    private final HutRow x = new HutRow();
    private final Model y = new Model();
    private final StringBuilder run = new StringBuilder();
    private final String name;
    private int wrong;

    private ModelTest(long seed) {
        random = new Random(seed);
        name = "seed " + seed;
    }

    public static void main(String[] args) {
        int seeds = args.length > 0 ? Integer.parseInt(args[0]) : 400;
        int from = args.length > 1 ? Integer.parseInt(args[1]) : 0;
        int wrong = 0;
        for (int seed = from; seed < from + seeds && wrong == 0; seed++) {
            ModelTest test = new ModelTest(seed);
            test.start();
            for (int i = 0; i < 400 && test.wrong == 0; i++) {
                test.step();
            }
            wrong += test.wrong;
        }
        System.out.println(seeds + " runs against the model, " + wrong + " wrong");
        System.exit(wrong == 0 ? 0 : 1);
    }

    // ---- numbers

    private int below(int n) {
        return random.nextInt(n);
    }

    private boolean chance(int percent) {
        return below(100) < percent;
    }

    /** From least to most, now and then just outside, or far. */
    private int about(int least, int most) {
        if (chance(3)) {
            int[] edges = {least - 1, most + 1, least, most, Integer.MIN_VALUE, Integer.MAX_VALUE};
            return edges[below(edges.length)];
        }
        return least + below(Math.max(1, most - least + 1));
    }

    private int aYear() {
        return chance(80) ? about(1950, 1995) : about(1900, 2099);
    }

    private int aKnown() {
        return chance(90) ? about(1978, 1995) : about(1900, 2099);
    }

    private int aPerson() {
        return about(0, y.persons.size() - 1);
    }

    private int aHut() {
        return about(0, y.huts.size() - 1);
    }

    private int aSet() {
        return chance(90) ? below(1024) : random.nextInt();
    }

    // ---- calls of both

    private void ask(String call, Supplier<Object> program, Supplier<Object> model) {
        String want = Check.answer(model);
        String got = Check.answer(program);
        run.append(call).append(" -> ").append(got).append('\n');
        if (!got.equals(want)) {
            wrong++;
            System.out.println(name + "\n" + run + "due is " + want);
        }
    }

    private void start() {
        int persons = 2 + below(11);
        for (int i = 0; i < persons; i++) {
            person();
        }
        int huts = 1 + below(10);
        for (int i = 0; i < huts; i++) {
            hut();
        }
        for (int sort = 0; sort < 4; sort++) {
            if (chance(80)) {
                text(sort, true);
            }
        }
    }

    private void step() {
        int kind = below(100);
        if (kind < 30) {
            tell();
        } else if (kind < 33) {
            text(about(0, 3), chance(50));
        } else if (kind < 36) {
            rare();
        } else if (kind < 70) {
            askState();
        } else {
            askMore();
        }
    }

    private void person() {
        int born = chance(70) ? about(1930, 1990) : about(1900, 2099);
        int limit = chance(80) ? about(0, 300) : about(0, 9999);
        boolean local = chance(50);
        ask("person(" + born + ", " + limit + ", " + local + ")", () -> x.person(born, limit, local),
            () -> y.person(born, limit, local));
    }

    private void hut() {
        int size = about(1, 9);
        int holder = chance(20) ? -1 : aPerson();
        int weeks = about(0, 20);
        ask("hut(" + size + ", " + holder + ", " + weeks + ")", () -> x.hut(size, holder, weeks),
            () -> y.hut(size, holder, weeks));
    }

    private void tell() {
        switch (below(13)) {
            case 0:
                if (chance(30)) {
                    person();
                } else {
                    hut();
                }
                break;
            case 1:
            case 2:
            case 3:
            case 4:
                event();
                break;
            case 5:
                sale();
                break;
            case 6:
                int waiter = aPerson();
                int since = aYear();
                ask("waits(" + waiter + ", " + since + ")", () -> x.waits(waiter, since),
                    () -> y.waits(waiter, since));
                break;
            case 7:
                tellStorms();
                break;
            case 8:
                tellPlanks();
                break;
            case 9:
                int hut = aHut();
                int year = aYear();
                int colour = about(0, 7);
                ask("photo(" + hut + ", " + year + ", " + colour + ")", () -> x.photo(hut, year, colour),
                    () -> y.photo(hut, year, colour));
                break;
            case 10:
                int night = chance(80) ? 5 + 6 * below(40) : about(0, 365);
                ask("thief(" + night + ")", () -> x.thief(night), () -> y.thief(night));
                break;
            case 11:
                int n = about(0, 9);
                ask("freed(" + n + ")", () -> x.freed(n), () -> y.freed(n));
                break;
            default:
                int day = about(0, 59);
                int wind = about(0, 9);
                ask("wind(" + day + ", " + wind + ")", () -> done(() -> x.wind(day, wind)),
                    () -> done(() -> y.wind(day, wind)));
        }
    }

    private static Object done(Runnable call) {
        call.run();
        return "done";
    }

    private void event() {
        int year = aYear();
        int kind = chance(25) ? 6 : about(0, 6);
        int a = kind >= 5 ? aHut() : aPerson();
        int b = kind == 6 ? aHut() : aPerson();
        ask("event(" + year + ", " + kind + ", " + a + ", " + b + ")", () -> x.event(year, kind, a, b),
            () -> y.event(year, kind, a, b));
    }

    private void sale() {
        int year = aYear();
        int hut = aHut();
        int to = aPerson();
        int price = chance(80) ? about(0, 999) : about(0, 9999);
        ask("sale(" + year + ", " + hut + ", " + to + ", " + price + ")", () -> x.sale(year, hut, to, price),
            () -> y.sale(year, hut, to, price));
    }

    private void tellStorms() {
        if (chance(50)) {
            int year = aYear();
            // Huts at the low end were moved more often, so that not every row of storms is impossible.
            int moved = chance(70) ? (1 << below(y.huts.size() + 1)) - 1 : aSet();
            ask("storm(" + year + ", " + moved + ")", () -> x.storm(year, moved), () -> y.storm(year, moved));
            return;
        }
        int hut = aHut();
        int low = chance(80) ? Math.min(99, hut * 5 + below(20)) : about(0, 99);
        int high = chance(95) ? Math.max(low, Math.min(99, low + below(60))) : about(0, 99);
        ask("line(" + hut + ", " + low + ", " + high + ")", () -> done(() -> x.line(hut, low, high)),
            () -> done(() -> y.line(hut, low, high)));
    }

    private void tellPlanks() {
        if (chance(40)) {
            int colours = chance(70) ? 1 + below(15) : about(1, 255);
            int place = chance(80) ? aHut() : about(0, 9);
            int far = chance(80) ? below(4) : about(0, 9);
            ask("plank(" + colours + ", " + place + ", " + far + ")", () -> x.plank(colours, place, far),
                () -> y.plank(colours, place, far));
            return;
        }
        int hut = aHut();
        int many = about(0, 4);
        int colour = chance(80) ? below(4) : about(0, 7);
        ask("lost(" + hut + ", " + many + ", " + colour + ")", () -> done(() -> x.lost(hut, many, colour)),
            () -> done(() -> y.lost(hut, many, colour)));
    }

    private void rare() {
        switch (below(4)) {
            case 0:
                int n = chance(90) ? below(4) : about(0, 200);
                ask("years(" + n + ")", () -> x.years(n), () -> y.years(n));
                break;
            case 1:
                ask("image()", () -> done(x::image), () -> done(y::image));
                break;
            case 2:
                ask("back()", x::back, y::back);
                break;
            default:
                int cut = about(-1, 30);
                ask("end(" + cut + ")", () -> x.end(cut), () -> y.end(cut));
        }
    }

    private void askState() {
        int hut = aHut();
        int person = aPerson();
        int year = aYear();
        int known = aKnown();
        String at = ", " + year + ", " + known;
        switch (below(7)) {
            case 0:
                ask("holder(" + hut + at + ")", () -> x.holder(hut, year, known), () -> y.holder(hut, year, known));
                break;
            case 1:
                ask("since(" + hut + at + ")", () -> x.since(hut, year, known), () -> y.since(hut, year, known));
                break;
            case 2:
                ask("place(" + hut + at + ")", () -> x.place(hut, year, known), () -> y.place(hut, year, known));
                break;
            case 3:
                ask("rent(" + hut + at + ")", () -> x.rent(hut, year, known), () -> y.rent(hut, year, known));
                break;
            case 4:
                int k = about(0, 6);
                ask("order(" + k + at + ")", () -> x.order(k, year, known), () -> y.order(k, year, known));
                break;
            default:
                int what = about(0, 6);
                ask("about(" + person + at + ", " + what + ")", () -> x.about(person, year, known, what),
                    () -> y.about(person, year, known, what));
        }
    }

    private void askMore() {
        int hut = aHut();
        int year = aYear();
        int known = aKnown();
        boolean flag = chance(50);
        switch (below(15)) {
            case 0:
                int times = about(1, 9);
                ask("leaves(" + year + ", " + times + ")", () -> x.leaves(year, times), () -> y.leaves(year, times));
                ask("income(" + year + ", " + times + ")", () -> x.income(year, times), () -> y.income(year, times));
                break;
            case 1:
                int k = about(1, 10);
                ask("howLong(" + k + ", " + flag + ")", () -> x.howLong(k, flag), () -> y.howLong(k, flag));
                break;
            case 2:
                int parts = about(0, 100);
                int when = y.events.isEmpty() || chance(20) ? year : y.events.get(below(y.events.size()))[0];
                ask("toll(" + when + ", " + parts + ")", () -> x.toll(when, parts), () -> y.toll(when, parts));
                break;
            case 3:
                int most = about(1, 99);
                ask("dodged(" + most + ")", () -> x.dodged(most), () -> y.dodged(most));
                break;
            case 4:
            case 5:
                askLift(hut);
                break;
            case 6:
                askCrane(flag);
                break;
            case 7:
                int storm = about(0, y.count(5) - 1);
                ask("sea(" + storm + ", " + known + ", " + flag + ")", () -> x.sea(storm, known, flag),
                    () -> y.sea(storm, known, flag));
                break;
            case 8:
                ask("level(" + hut + ", " + known + ", " + flag + ")", () -> x.level(hut, known, flag),
                    () -> y.level(hut, known, flag));
                break;
            case 9:
                int sea = about(0, 100);
                ask("flood(" + sea + ", " + known + ", " + flag + ")", () -> x.flood(sea, known, flag),
                    () -> y.flood(sea, known, flag));
                break;
            case 10:
                int plank = about(0, y.count(6) - 1);
                if (flag) {
                    ask("rows()", x::rows, y::rows);
                }
                ask("whose(" + plank + ")", () -> x.whose(plank), () -> y.whose(plank));
                break;
            case 11:
                ask("allowed(" + hut + ", " + year + ")", () -> x.allowed(hut, year), () -> y.allowed(hut, year));
                break;
            case 12:
                ask("breaches(" + hut + ")", () -> x.breaches(hut), () -> y.breaches(hut));
                ask("painted(" + hut + ")", () -> x.painted(hut), () -> y.painted(hut));
                break;
            case 13:
                ask("thieves(" + flag + ")", () -> x.thieves(flag), () -> y.thieves(flag));
                break;
            default:
                int what = about(0, 9);
                ask("count(" + what + ")", () -> x.count(what), () -> y.count(what));
        }
    }

    private void askLift(int hut) {
        int set = aSet();
        int piles = about(1, 4);
        int how = about(0, 2);
        int of = chance(30) ? -1 : hut;
        ask("lift(" + set + ", " + piles + ", " + how + ", " + of + ")", () -> x.lift(set, piles, how, of),
            () -> y.lift(set, piles, how, of));
    }

    private void askCrane(boolean flag) {
        int set = aSet();
        int day = chance(70) ? 50 + below(10) : about(0, 59);
        int many = chance(70) ? 1 + below(3) : about(1, 9);
        ask("crane(" + set + ", " + day + ", " + many + ", " + flag + ")", () -> x.crane(set, day, many, flag),
            () -> y.crane(set, day, many, flag));
    }

    // ---- texts

    private void text(int sort, boolean right) {
        StringBuilder text = new StringBuilder();
        int lines = chance(5) ? 9 + below(3) : below(5);
        for (int i = 0; i < lines; i++) {
            text.append(i > 0 ? ";" : "");
            line(text, Math.floorMod(sort, 4));
        }
        if (!right) {
            spoil(text);
        }
        String whole = text.length() > 400 ? text.substring(0, 400) : text.toString();
        tape(whole);
        ask("text(" + sort + ") of '" + whole + "'", () -> x.text(sort), () -> y.text(sort));
        ask("fault()", x::fault, y::fault);
    }

    private void tape(String text) {
        ask("end(0)", () -> x.end(0), () -> y.end(0));
        for (int from = 0; from < text.length(); from += 20) {
            int[] n = new int[5];
            for (int i = 0; i < 20; i++) {
                int sign = from + i < text.length() ? text.charAt(from + i) : below(256);
                n[i / 4] |= (sign & 255) << 24 - i % 4 * 8;
            }
            ask("feed", () -> x.feed(n[0], n[1], n[2], n[3], n[4]), () -> y.feed(n));
        }
        ask("end(" + text.length() + ")", () -> x.end(text.length()), () -> y.end(text.length()));
    }

    private void spoil(StringBuilder text) {
        int at = below(text.length() + 1);
        switch (below(4)) {
            case 0:
                text.setLength(at);
                break;
            case 1:
                text.insert(at, " " + THINGS[below(THINGS.length)] + " ");
                break;
            case 2:
                text.insert(at, THINGS[below(THINGS.length)]);
                break;
            default:
                text.delete(at, Math.min(text.length(), at + 1 + below(3)));
        }
    }

    private void gap(StringBuilder text) {
        text.append(" ".repeat(chance(90) ? 1 : below(3) + 1));
    }

    private void thing(StringBuilder text, String thing) {
        boolean isWord = Character.isLetterOrDigit(thing.charAt(0));
        if (isWord || chance(20)) {
            gap(text);
        }
        text.append(thing);
    }

    private void line(StringBuilder text, int sort) {
        if (sort == 0) {
            thing(text, "to");
            thing(text, new String[] {"spouse", "child", "parent", "brother"}[below(4)]);
        } else if (sort == 3) {
            thing(text, "allow");
            thing(text, "" + below(8));
        } else {
            thing(text, chance(75) ? "add" : "less");
            thing(text, "" + (chance(70) ? below(60) : below(10000)));
            if (chance(40)) {
                thing(text, "*");
                thing(text, FACTS[sort][below(FACTS[sort].length)]);
            }
        }
        if (chance(60)) {
            thing(text, "if");
            condition(text, sort, chance(5) ? 5 + below(3) : 2);
        }
    }

    private void condition(StringBuilder text, int sort, int deep) {
        atom(text, sort, deep);
        while (chance(25)) {
            thing(text, chance(50) ? "and" : "or");
            atom(text, sort, deep);
        }
    }

    private void atom(StringBuilder text, int sort, int deep) {
        boolean goesDeep = chance(deep > 4 ? 98 : 35);
        if (deep > 0 && goesDeep) {
            if (chance(50)) {
                thing(text, "not");
                atom(text, sort, deep - 1);
            } else {
                thing(text, "(");
                condition(text, sort, deep > 4 ? deep - 1 : Math.min(deep - 1, 2));
                thing(text, ")");
            }
        } else if (sort != 3 && chance(25)) {
            thing(text, "local");
        } else {
            sum(text, sort);
            thing(text, chance(50) ? "<" : ">");
            sum(text, sort);
        }
    }

    private void sum(StringBuilder text, int sort) {
        do {
            if (chance(50)) {
                thing(text, "" + (chance(50) ? below(30) : 1940 + below(60)));
            } else {
                thing(text, FACTS[sort][below(FACTS[sort].length)]);
            }
            if (chance(80)) {
                return;
            }
            thing(text, "+");
        } while (true);
    }
}
