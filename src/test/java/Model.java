import java.util.ArrayList;
import java.util.Comparator;
import java.util.List;
import java.util.NoSuchElementException;

/**
 * The document told a second time, as plainly and slowly as it goes, for ModelTest: nothing is shared
 * with the program but the reading of the document (see NOTES.md).
 */
final class Model {
    List<int[]> persons = new ArrayList<>();
    List<int[]> huts = new ArrayList<>();
    List<int[]> events = new ArrayList<>();
    List<int[]> waiters = new ArrayList<>();
    private List<Integer> freed = new ArrayList<>();
    private List<int[]> storms = new ArrayList<>();
    private List<int[]> planks = new ArrayList<>();
    private List<int[]> photos = new ArrayList<>();
    private List<Integer> nights = new ArrayList<>();
    private int[] winds = new int[60];
    ModelText[] texts = new ModelText[4];
    private int today = 1980;
    private String tape = "";
    private int fault = -1;
    private Model kept;

    // ---- the tape

    int feed(int... numbers) {
        if (tape.length() + 20 > 400) {
            return -1;
        }
        for (int number : numbers) {
            tape += "" + (char) (number >>> 24) + (char) (number >>> 16 & 255) + (char) (number >>> 8 & 255)
                + (char) (number & 255);
        }
        return tape.length();
    }

    boolean end(int n) {
        if (n < 0 || n > tape.length()) {
            return false;
        }
        tape = tape.substring(0, n);
        return true;
    }

    int text(int sort) {
        String text = tape;
        tape = "";
        legal(sort >= 0 && sort <= 3);
        try {
            fault = -1;
            texts[sort] = new ModelText(sort, text);
            return texts[sort].lines.size();
        } catch (ModelText.Wrong wrong) {
            fault = wrong.at;
            throw new IllegalArgumentException();
        }
    }

    int fault() {
        return fault;
    }

    // ---- what is told

    int years(int n) {
        legal(n >= 0 && (long) today + n <= 2099);
        return today += n;
    }

    int person(int born, int limit, boolean local) {
        legal(born >= 1900 && born <= 2099 && limit >= 0 && limit <= 9999);
        return put(persons, 12, born, limit, local ? 1 : 0) - 1;
    }

    int hut(int size, int holder, int weeks) {
        there(holder == -1 || isPerson(holder));
        legal(size >= 1 && size <= 9 && weeks >= 0 && weeks <= 20);
        return put(huts, 10, size, holder, weeks, 0, 99, 0, 0) - 1;
    }

    int event(int year, int kind, int a, int b) {
        there(isYear(year));
        legal(kind >= 0 && kind <= 6 && kind != 4);
        there(kind >= 5 ? isHut(a) : isPerson(a));
        there(kind == 0 || (kind == 6 ? isHut(b) : isPerson(b)));
        legal(kind == 0 || kind > 3 || a != b);
        return put(events, 40, year, today, kind, a, b, 0);
    }

    int sale(int year, int hut, int to, int price) {
        there(isYear(year) && isHut(hut) && isPerson(to));
        legal(price >= 0 && price <= 9999);
        return put(events, 40, year, today, 4, hut, to, price);
    }

    int waits(int person, int since) {
        there(isPerson(person) && isYear(since));
        legal(waiters.stream().noneMatch(waiter -> waiter[0] == person));
        return put(waiters, 10, person, since, today);
    }

    int freed(int n) {
        legal(n >= 0 && n <= 9);
        room(freed.size() < 20);
        freed.add(n);
        return freed.size();
    }

    void wind(int day, int n) {
        there(day >= 0 && day < 60);
        legal(n >= 0 && n <= 9);
        winds[day] = n;
    }

    void line(int hut, int low, int high) {
        there(isHut(hut));
        legal(0 <= low && low <= high && high <= 99);
        huts.get(hut)[3] = low;
        huts.get(hut)[4] = high;
    }

    int storm(int year, int moved) {
        there(isYear(year));
        legal(moved >= 0 && moved < 1 << huts.size());
        return put(storms, 10, year, today, moved) - 1;
    }

    void lost(int hut, int planks, int colour) {
        there(isHut(hut));
        legal(planks >= 0 && planks <= 4 && colour >= 0 && colour <= 7);
        huts.get(hut)[5] = planks;
        huts.get(hut)[6] = colour;
    }

    int plank(int colours, int place, int far) {
        there(place >= 0 && place <= 9);
        legal(colours >= 1 && colours <= 255 && far >= 0 && far <= 9);
        return put(planks, 8, colours, place, far) - 1;
    }

    int photo(int hut, int year, int colour) {
        there(isHut(hut) && isYear(year));
        legal(colour >= 0 && colour <= 7);
        return put(photos, 20, hut, year, colour);
    }

    int thief(int night) {
        legal(night >= 0 && night <= 365);
        room(nights.size() < 12);
        nights.add(night);
        return nights.size();
    }

    // ---- as it stands

    int holder(int hut, int year, int known) {
        there(isHut(hut) && isYear(year) && isYear(known));
        return new ModelState(this, year, known).holder[hut];
    }

    int since(int hut, int year, int known) {
        there(isHut(hut) && isYear(year) && isYear(known));
        ModelState state = new ModelState(this, year, known);
        return state.holder[hut] < 0 ? -1 : state.since[hut];
    }

    int place(int hut, int year, int known) {
        there(isHut(hut) && isYear(year) && isYear(known));
        return new ModelState(this, year, known).row.indexOf(hut);
    }

    int about(int person, int year, int known, int what) {
        there(isPerson(person) && isYear(year) && isYear(known));
        ModelState state = new ModelState(this, year, known);
        switch (what) {
            case 0:
                return state.living(person) ? 1 : 0;
            case 1:
                return state.spouse(person);
            case 2:
                return state.children(person).size();
            case 3:
                return state.eldest(state.children(person));
            case 4:
                return state.parent(person);
            case 5:
                return state.brother(person);
            case 6:
                int bits = 0;
                for (int hut = 0; hut < huts.size(); hut++) {
                    bits |= state.holder[hut] == person ? 1 << hut : 0;
                }
                return bits;
            default:
                throw new NoSuchElementException();
        }
    }

    int rent(int hut, int year, int known) {
        there(isHut(hut) && isYear(year) && isYear(known));
        return new ModelState(this, year, known).rent(hut);
    }

    int leaves(int year, int times) {
        there(isYear(year));
        legal(times >= 1 && times <= 9);
        ModelState state = new ModelState(this, year, today);
        int bits = 0;
        for (int hut = 0; hut < huts.size(); hut++) {
            int one = state.holder[hut];
            bits |= one >= 0 && persons.get(one)[1] < (long) state.rent(hut) * times ? 1 << hut : 0;
        }
        return bits;
    }

    int income(int year, int times) {
        int gone = leaves(year, times);
        ModelState state = new ModelState(this, year, today);
        List<Integer> queue = state.queue(today);
        int sum = 0;
        for (int hut = 0; hut < huts.size(); hut++) {
            int rent = state.rent(hut) * times;
            if (state.holder[hut] >= 0 && (gone >> hut & 1) == 0) {
                sum += rent;
                continue;
            }
            for (int i = 0; i < queue.size(); i++) {
                if (persons.get(queue.get(i))[1] >= rent) {
                    queue.remove(i);
                    sum += rent;
                    break;
                }
            }
        }
        return sum;
    }

    int order(int k, int year, int known) {
        there(isYear(year) && isYear(known));
        List<Integer> queue = new ModelState(this, year, known).queue(known);
        return k >= 1 && k <= queue.size() ? queue.get(k - 1) : -1;
    }

    int howLong(int k, boolean most) {
        legal(k >= 1 && k <= 10);
        int by = freed.stream().mapToInt(n -> most ? -n : n).max().orElse(0);
        by = Math.abs(by);
        return by == 0 ? -1 : (int) Math.ceil(k / (double) by);
    }

    int toll(int year, int hundredths) {
        there(isYear(year));
        legal(hundredths >= 0 && hundredths <= 100);
        int sum = 0;
        for (int[] sale : new ModelState(this, 2099, today).sold) {
            sum += sale[0] == year ? Math.floorDiv(sale[2] * hundredths, 100) : 0;
        }
        return sum;
    }

    int dodged(int times) {
        legal(times >= 1 && times <= 99);
        int many = 0;
        for (int[] sale : new ModelState(this, 2099, today).sold) {
            long rent = sale[0] == 1900 ? 0 : new ModelState(this, sale[0] - 1, today).rent(sale[1]);
            many += sale[3] == 0 && sale[2] < rent * times ? 1 : 0;
        }
        return many;
    }

    // ---- lifts

    int lift(int set, int piles, int how, int hut) {
        there(hut == -1 || isHut(hut));
        legal(piles >= 1 && piles <= 4 && how >= 0 && how <= 2);
        List<Integer> going = new ArrayList<>();
        for (int one : new ModelState(this, today, today).row) {
            if ((set >> one & 1) != 0) {
                going.add(one);
            }
        }
        legal(going.size() <= 7);
        List<Integer> coming = new ArrayList<>(going);
        if (how == 1) {
            java.util.Collections.reverse(coming);
        } else if (how == 2) {
            java.util.Collections.sort(coming);
        }
        int least = Integer.MAX_VALUE;
        int first = 0;
        for (int way = 0; way < Math.pow(piles, going.size()); way++) {
            int twice = twice(going, coming, way, piles);
            if (twice < least) {
                least = twice;
                first = way;
            }
        }
        if (hut == -1) {
            return least;
        }
        int at = going.indexOf(hut);
        return at < 0 ? -1 : pile(first, at, going.size(), piles);
    }

    private static int pile(int way, int at, int many, int piles) {
        return way / (int) Math.pow(piles, many - 1 - at) % piles;
    }

    private int twice(List<Integer> going, List<Integer> coming, int way, int piles) {
        int sum = 0;
        for (int i = 0; i < going.size(); i++) {
            boolean above = false;
            for (int j = 0; j < i; j++) {
                above |= pile(way, i, going.size(), piles) == pile(way, j, going.size(), piles)
                    && coming.indexOf(going.get(j)) < coming.indexOf(going.get(i));
            }
            sum += above ? huts.get(going.get(i))[0] : 0;
        }
        return sum;
    }

    int crane(int set, int day, int many, boolean ordered) {
        there(day >= 0 && day < 60);
        legal(many >= 1 && many <= 9);
        List<Integer> left = new ArrayList<>();
        for (int hut = 0; hut < huts.size(); hut++) {
            if ((set >> hut & 1) != 0) {
                left.add(hut);
            }
        }
        if (left.isEmpty()) {
            return day;
        }
        if (ordered) {
            int at = day;
            int today1 = 0;
            for (int hut : left) {
                if (today1 == many) {
                    at++;
                    today1 = 0;
                }
                while (at < 60 && huts.get(hut)[0] + winds[at] > 12) {
                    at++;
                    today1 = 0;
                }
                if (at >= 60) {
                    return -1;
                }
                today1++;
            }
            return at;
        }
        for (int last = day; last < 60; last++) {
            if (matches(left, day, last, many)) {
                return last;
            }
        }
        return -1;
    }

    /** Every hut to a slot of a day, by paths that make room. */
    private boolean matches(List<Integer> left, int day, int last, int many) {
        int[] slots = new int[(last - day + 1) * many];
        java.util.Arrays.fill(slots, -1);
        for (int hut : left) {
            if (!place(hut, slots, new boolean[slots.length], day, many)) {
                return false;
            }
        }
        return true;
    }

    private boolean place(int hut, int[] slots, boolean[] seen, int day, int many) {
        for (int slot = 0; slot < slots.length; slot++) {
            if (!seen[slot] && huts.get(hut)[0] + winds[day + slot / many] <= 12) {
                seen[slot] = true;
                if (slots[slot] < 0 || place(slots[slot], slots, seen, day, many)) {
                    slots[slot] = hut;
                    return true;
                }
            }
        }
        return false;
    }

    // ---- storms: the longest and shortest ways through all differences told

    /** For lines, then seas: the least and the greatest; null, if there are no rows. */
    private int[][] shore(int known) {
        int many = huts.size() + storms.size();
        long[][] atMost = new long[many + 1][many + 1];
        for (int i = 0; i <= many; i++) {
            for (int j = 0; j <= many; j++) {
                atMost[i][j] = i == j ? 0 : 1_000_000;
            }
        }
        for (int i = 0; i < many; i++) {
            boolean isHut = i < huts.size();
            atMost[many][i] = isHut ? huts.get(i)[4] : 100;
            atMost[i][many] = isHut ? -huts.get(i)[3] : 0;
        }
        for (int i = 0; i < storms.size(); i++) {
            for (int hut = 0; hut < huts.size() && storms.get(i)[1] <= known; hut++) {
                int sea = huts.size() + i;
                if ((storms.get(i)[2] >> hut & 1) != 0) {
                    atMost[sea][hut] = -1;
                } else {
                    atMost[hut][sea] = 0;
                }
            }
        }
        for (int via = 0; via <= many; via++) {
            for (int i = 0; i <= many; i++) {
                for (int j = 0; j <= many; j++) {
                    atMost[i][j] = Math.min(atMost[i][j], atMost[i][via] + atMost[via][j]);
                }
            }
        }
        int[][] bounds = new int[many][];
        for (int i = 0; i < many; i++) {
            if (atMost[i][i] < 0) {
                return null;
            }
            bounds[i] = new int[] {(int) -atMost[i][many], (int) atMost[many][i]};
        }
        return atMost[many][many] < 0 ? null : bounds;
    }

    int sea(int storm, int known, boolean most) {
        there(storm >= 0 && storm < storms.size() && isYear(known));
        int[][] bounds = shore(known);
        return bounds == null ? -1 : bounds[huts.size() + storm][most ? 1 : 0];
    }

    int level(int hut, int known, boolean most) {
        there(isHut(hut) && isYear(known));
        int[][] bounds = shore(known);
        return bounds == null ? -1 : bounds[hut][most ? 1 : 0];
    }

    int flood(int sea, int known, boolean may) {
        there(isYear(known));
        legal(sea >= 0 && sea <= 100);
        int[][] bounds = shore(known);
        int bits = bounds == null ? -1 : 0;
        for (int hut = 0; bounds != null && hut < huts.size(); hut++) {
            bits |= bounds[hut][may ? 0 : 1] < sea ? 1 << hut : 0;
        }
        return bits;
    }

    // ---- planks

    /** All rows, one by one; whose[p] gathers the huts that the plank p is of. */
    private long share(List<Integer> row, int[] left, int[] owners, int plank, int[] whose) {
        if (plank == planks.size()) {
            for (int i = 0; i < plank; i++) {
                whose[i] |= 1 << owners[i];
            }
            return 1;
        }
        long sum = 0;
        for (int place = 0; place < row.size(); place++) {
            int hut = row.get(place);
            int[] one = planks.get(plank);
            boolean near = Math.abs(one[1] - place) <= one[2];
            if (near && left[hut] > 0 && (one[0] >> huts.get(hut)[6] & 1) != 0) {
                left[hut]--;
                owners[plank] = hut;
                sum += share(row, left, owners, plank + 1, whose);
                left[hut]++;
            }
        }
        return sum;
    }

    private long share(int[] whose) {
        int[] left = huts.stream().mapToInt(hut -> hut[5]).toArray();
        return share(new ModelState(this, today, today).row, left, new int[8], 0, whose);
    }

    long rows() {
        return share(new int[8]);
    }

    int whose(int plank) {
        there(plank >= 0 && plank < planks.size());
        int[] whose = new int[8];
        share(whose);
        return whose[plank];
    }

    // ---- paint and thieves

    int allowed(int hut, int year) {
        there(isHut(hut) && isYear(year));
        return new ModelState(this, year, today).colours(hut);
    }

    int breaches(int hut) {
        there(isHut(hut));
        return (int) photos.stream().filter(photo -> photo[0] == hut
            && (allowed(hut, photo[1]) >> photo[2] & 1) == 0).count();
    }

    int painted(int hut) {
        there(isHut(hut));
        List<int[]> own = new ArrayList<>(photos);
        own.removeIf(photo -> photo[0] != hut);
        own.sort(Comparator.comparingInt(photo -> photo[1]));
        int many = 0;
        for (int i = 1; i < own.size(); i++) {
            many += own.get(i)[2] != own.get(i - 1)[2] ? 1 : 0;
        }
        return many;
    }

    int thieves(boolean next) {
        for (int period = 2; period <= 40 && nights.size() >= 2; period++) {
            int by = period;
            if (nights.stream().map(night -> night % by).distinct().count() == 1) {
                int night = nights.stream().max(Comparator.naturalOrder()).get() + 1;
                while (night % period != nights.get(0) % period) {
                    night++;
                }
                return next ? night : period;
            }
        }
        return -1;
    }

    // ---- the image

    void image() {
        kept = new Model();
        kept.take(this);
    }

    boolean back() {
        if (kept == null) {
            return false;
        }
        take(kept);
        return true;
    }

    private void take(Model other) {
        persons = copy(other.persons);
        huts = copy(other.huts);
        events = copy(other.events);
        waiters = copy(other.waiters);
        freed = new ArrayList<>(other.freed);
        storms = copy(other.storms);
        planks = copy(other.planks);
        photos = copy(other.photos);
        nights = new ArrayList<>(other.nights);
        winds = other.winds.clone();
        texts = other.texts.clone();
        today = other.today;
    }

    private static List<int[]> copy(List<int[]> rows) {
        List<int[]> copy = new ArrayList<>();
        rows.forEach(row -> copy.add(row.clone()));
        return copy;
    }

    int count(int what) {
        ModelState state = new ModelState(this, today, today);
        int living = 0;
        for (int person = 0; person < persons.size(); person++) {
            living += state.living(person) ? 1 : 0;
        }
        int held = 0;
        for (int one : state.holder) {
            held += one >= 0 ? 1 : 0;
        }
        int[] counts = {persons.size(), huts.size(), events.size(), today, waiters.size(), storms.size(),
            planks.size(), photos.size(), living, held};
        return what >= 0 && what < counts.length ? counts[what] : -1;
    }

    // ---- what a call asks of its numbers

    private boolean isYear(int year) {
        return year >= 1900 && year <= 2099;
    }

    private boolean isPerson(int person) {
        return person >= 0 && person < persons.size();
    }

    private boolean isHut(int hut) {
        return hut >= 0 && hut < huts.size();
    }

    private static void there(boolean right) {
        if (!right) {
            throw new IndexOutOfBoundsException();
        }
    }

    private static void legal(boolean right) {
        if (!right) {
            throw new IllegalArgumentException();
        }
    }

    private static void room(boolean right) {
        if (!right) {
            throw new UnsupportedOperationException();
        }
    }

    private static int put(List<int[]> rows, int most, int... row) {
        room(rows.size() < most);
        rows.add(row);
        return rows.size();
    }
}
