import java.util.Arrays;
import java.util.NoSuchElementException;

/** Huts in a row above the tide; the document that it keeps to is ../shared/DOC.md. */
public final class HutRow {
    public static final int NONE = -1;

    private static final int FIRST_YEAR = 1900;
    private static final int LAST_YEAR = 2099;
    private static final int FIRST_TODAY = 1980;
    private static final int DAYS = 60;
    private static final int STRONGEST = 12;
    private static final int LAST_NIGHT = 365;
    private static final int TOP_LINE = 99;
    private static final int TOP_SEA = 100;
    private static final int MOST_NUMBER = 9999;
    private static final int ALL_COLOURS = 255;
    private static final int LAST_COLOUR = 7;
    private static final int LAST_PLACE = 9;
    private static final int LEAST_PERIOD = 2;
    private static final int MOST_PERIOD = 40;

    private static final int MOST_PERSONS = 12;
    private static final int MOST_HUTS = 10;
    private static final int MOST_EVENTS = 40;
    private static final int MOST_WAITERS = 10;
    private static final int MOST_FREED = 20;
    private static final int MOST_STORMS = 10;
    private static final int MOST_PLANKS = 8;
    private static final int MOST_PHOTOS = 20;
    private static final int MOST_NIGHTS = 12;
    private static final int MOST_LINES = 10;
    private static final int MOST_TAPE = 400;
    private static final int MOST_LIFTED = 7;
    private static final int MOST_PILES = 4;
    private static final int MOST_DEEP = 6;
    private static final int FED = 20;

    // The parts of a PERSON, told and as it stands in a YEAR.
    private static final int BORN = 0;
    private static final int LIMIT = 1;
    private static final int NATIVE = 2;
    private static final int PARTNER = 0;
    private static final int KIDS = 1;
    private static final int PARENTS = 2;

    // The parts of a HUT, told and as it stands in a YEAR.
    private static final int SIZE = 0;
    private static final int FIRST_HOLDER = 1;
    private static final int WEEKS = 2;
    private static final int LOW = 3;
    private static final int HIGH = 4;
    private static final int LOST = 5;
    private static final int COLOUR = 6;
    private static final int HOLDER = 0;
    private static final int SINCE = 1;

    // The parts of what has a YEAR: it comes first, so that tables can be sorted by it.
    private static final int YEAR = 0;
    private static final int TOLD = 1;
    private static final int KIND = 2;
    private static final int ONE = 3;
    private static final int OTHER = 4;
    private static final int PRICE = 5;
    private static final int MOVED_BITS = 2;
    private static final int PHOTO_HUT = 1;
    private static final int PHOTO_COLOUR = 2;

    private static final int WHO = 0;
    private static final int WAITS_SINCE = 1;
    private static final int WAITS_TOLD = 2;

    private static final int PLANK_COLOURS = 0;
    private static final int PLANK_PLACE = 1;
    private static final int PLANK_FAR = 2;

    private static final int DIED = 0;
    private static final int WED = 1;
    private static final int PARTED = 2;
    private static final int CHILD = 3;
    private static final int SALE = 4;
    private static final int GIVEN = 5;
    private static final int MOVED = 6;

    private static final int RIGHTS = 0;
    private static final int RENTS = 1;
    private static final int WAITS = 2;
    private static final int PAINT = 3;
    private static final int SORTS = 4;

    // The FACTS, by numbers; local stands behind them, as an ATOM of its own.
    private static final int FACT_HELD = 0;
    private static final int FACT_AGE = 1;
    private static final int FACT_CHILDREN = 2;
    private static final int FACT_YEAR = 3;
    private static final int FACT_SIZE = 4;
    private static final int FACT_PLACE = 5;
    private static final int FACT_WEEKS = 6;
    private static final int FACT_WAITED = 7;
    private static final int FACT_LOCAL = 8;
    private static final int FACTS = 9;
    private static final int[] FACTS_OF_SORT = {0b00011111, 0b01111001, 0b10001110, 0b00111000};

    // A condition is kept as a row in which each sign stands behind what it joins:
    // numbers as they are, FACT f as -1 - f, signs below all FACTS.
    private static final int PLUS = -10;
    private static final int BELOW = -11;
    private static final int ABOVE = -12;
    private static final int NOT = -13;
    private static final int AND = -14;
    private static final int OR = -15;

    // The parts of a LINE: what it does (WHOM, add or less, COLOUR), by how much, and its condition.
    private static final int LINE_WHAT = 0;
    private static final int LINE_NUMBER = 1;
    private static final int LINE_FACT = 2;
    private static final int LINE_FROM = 3;
    private static final int LINE_TO = 4;
    private static final int LINE_PARTS = 5;
    private static final int WHOM_SPOUSE = 0;
    private static final int WHOM_CHILD = 1;
    private static final int WHOM_PARENT = 2;
    private static final int WHOM_BROTHER = 3;
    private static final int ADDS = 1;
    private static final int LESSENS = -1;

    // The things that a text is made of; words have the number of their place in WORDS.
    private static final String WORDS =
        "held age children year size place weeks waited local spouse child parent brother to if add less allow or and not ";
    private static final int WORD_LOCAL = 8;
    private static final int WORD_SPOUSE = 9;
    private static final int WORD_BROTHER = 12;
    private static final int WORD_TO = 13;
    private static final int WORD_IF = 14;
    private static final int WORD_ADD = 15;
    private static final int WORD_LESS = 16;
    private static final int WORD_ALLOW = 17;
    private static final int WORD_OR = 18;
    private static final int WORD_AND = 19;
    private static final int WORD_NOT = 20;
    private static final int A_NUMBER = 30;
    private static final int THE_END = 31;
    private static final int NOTHING = 32;

    private final Told now = new Told();
    private final Told kept = new Told();
    private boolean hasImage;
    private final Reader reader = new Reader();
    private int firstWrong = NONE;
    private final Replay replay = new Replay(now);
    private final Replay before = new Replay(now);
    private final Queue queue = new Queue(now, replay);
    private final Yard yard = new Yard();
    private final Shore shore = new Shore(now);
    private final Road road = new Road(now, replay);

    public HutRow() {
    }

    // ---- the TAPE and the texts

    public int feed(int a, int b, int c, int d, int e) {
        if (!reader.hasRoom(FED)) {
            return NONE;
        }
        reader.addNumber(a);
        reader.addNumber(b);
        reader.addNumber(c);
        reader.addNumber(d);
        reader.addNumber(e);
        return reader.length();
    }

    public boolean end(int n) {
        if (n < 0 || n > reader.length()) {
            return false;
        }
        reader.cut(n);
        return true;
    }

    public int text(int sort) throws IllegalArgumentException {
        if (sort < 0 || sort >= SORTS) {
            reader.cut(0);
            throw new IllegalArgumentException();
        }
        boolean right = reader.reads(sort);
        reader.cut(0);
        firstWrong = right ? NONE : reader.wrongAt();
        need(right);
        Text fresh = reader.compiled();
        now.enforce(sort, fresh);
        return fresh.size();
    }

    public int fault() {
        return firstWrong;
    }

    // ---- what is told of people and HUTS

    public int years(int n) throws IllegalArgumentException {
        needBetween(n, 0, LAST_YEAR - now.today);
        now.today += n;
        return now.today;
    }

    public int person(int born, int limit, boolean local)
            throws IllegalArgumentException, UnsupportedOperationException {
        needBetween(born, FIRST_YEAR, LAST_YEAR);
        needBetween(limit, 0, MOST_NUMBER);
        needRoom(now.persons);
        int number = now.persons.open();
        now.persons.set(number, BORN, born);
        now.persons.set(number, LIMIT, limit);
        now.persons.set(number, NATIVE, local ? 1 : 0);
        return number;
    }

    public int hut(int size, int holder, int weeks)
            throws IndexOutOfBoundsException, IllegalArgumentException, UnsupportedOperationException {
        if (holder != NONE) {
            needPerson(holder);
        }
        needBetween(size, 1, 9);
        needBetween(weeks, 0, 20);
        needRoom(now.huts);
        int number = now.huts.open();
        now.huts.set(number, SIZE, size);
        now.huts.set(number, FIRST_HOLDER, holder);
        now.huts.set(number, WEEKS, weeks);
        now.huts.set(number, HIGH, TOP_LINE);
        return number;
    }

    public int event(int year, int kind, int a, int b)
            throws IndexOutOfBoundsException, IllegalArgumentException, UnsupportedOperationException {
        needYear(year);
        switch (kind) {
            case DIED:
                needPerson(a);
                break;
            case WED:
            case PARTED:
            case CHILD:
                needPerson(a);
                needPerson(b);
                need(a != b);
                break;
            case GIVEN:
                needHut(a);
                needPerson(b);
                break;
            case MOVED:
                needHut(a);
                needIndex(b, now.huts.size());
                break;
            default:
                need(false);
        }
        return addEvent(year, kind, a, b, 0);
    }

    public int sale(int year, int hut, int to, int price)
            throws IndexOutOfBoundsException, IllegalArgumentException, UnsupportedOperationException {
        needYear(year);
        needHut(hut);
        needPerson(to);
        needBetween(price, 0, MOST_NUMBER);
        return addEvent(year, SALE, hut, to, price);
    }

    private int addEvent(int year, int kind, int a, int b, int price) {
        needRoom(now.events);
        int row = now.events.openByYear(year);
        now.events.set(row, TOLD, now.today);
        now.events.set(row, KIND, kind);
        now.events.set(row, ONE, a);
        now.events.set(row, OTHER, b);
        now.events.set(row, PRICE, price);
        return now.events.size();
    }

    // ---- as it stands IN a YEAR

    public int holder(int hut, int year, int known) throws IndexOutOfBoundsException {
        needHutInYears(hut, year, known);
        replay.begin(known);
        replay.goTo(year);
        return replay.holderOf(hut);
    }

    public int since(int hut, int year, int known) throws IndexOutOfBoundsException {
        needHutInYears(hut, year, known);
        replay.begin(known);
        replay.goTo(year);
        return replay.holderOf(hut) == NONE ? NONE : replay.sinceOf(hut);
    }

    public int place(int hut, int year, int known) throws IndexOutOfBoundsException {
        needHutInYears(hut, year, known);
        replay.begin(known);
        replay.goTo(year);
        return replay.placeOf(hut);
    }

    public int about(int person, int year, int known, int what)
            throws IndexOutOfBoundsException, NoSuchElementException {
        needPerson(person);
        needYear(year);
        needYear(known);
        replay.begin(known);
        replay.goTo(year);
        switch (what) {
            case 0:
                return replay.lives(person) ? 1 : 0;
            case 1:
                return replay.spouseOf(person);
            case 2:
                return Integer.bitCount(replay.childrenOf(person));
            case 3:
                return replay.eldest(replay.childrenOf(person));
            case 4:
                return replay.parentOf(person);
            case 5:
                return replay.eldest(replay.siblingsOf(person));
            case 6:
                return replay.hutsOf(person);
            default:
                throw new NoSuchElementException();
        }
    }

    // ---- RENTS, and those who wait

    public int rent(int hut, int year, int known) throws IndexOutOfBoundsException {
        needHutInYears(hut, year, known);
        replay.begin(known);
        replay.goTo(year);
        return replay.rentOf(hut);
    }

    public int leaves(int year, int times) throws IndexOutOfBoundsException, IllegalArgumentException {
        needYear(year);
        needBetween(times, 1, 9);
        replay.begin(now.today);
        replay.goTo(year);
        int bits = 0;
        for (int hut = 0; hut < now.huts.size(); hut++) {
            if (replay.holderOf(hut) != NONE && !stays(hut, replay.rentOf(hut) * times)) {
                bits |= 1 << hut;
            }
        }
        return bits;
    }

    public int income(int year, int times) throws IndexOutOfBoundsException, IllegalArgumentException {
        needYear(year);
        needBetween(times, 1, 9);
        replay.begin(now.today);
        replay.goTo(year);
        queue.lineUp();
        int sum = 0;
        for (int hut = 0; hut < now.huts.size(); hut++) {
            int asked = replay.rentOf(hut) * times;
            if (stays(hut, asked) || queue.takes(asked)) {
                sum += asked;
            }
        }
        return sum;
    }

    private boolean stays(int hut, int asked) {
        int holder = replay.holderOf(hut);
        return holder != NONE && now.persons.get(holder, LIMIT) >= asked;
    }

    public int waits(int person, int since)
            throws IndexOutOfBoundsException, IllegalArgumentException, UnsupportedOperationException {
        needPerson(person);
        needYear(since);
        for (int i = 0; i < now.waiters.size(); i++) {
            need(now.waiters.get(i, WHO) != person);
        }
        needRoom(now.waiters);
        int row = now.waiters.open();
        now.waiters.set(row, WHO, person);
        now.waiters.set(row, WAITS_SINCE, since);
        now.waiters.set(row, WAITS_TOLD, now.today);
        return now.waiters.size();
    }

    public int order(int k, int year, int known) throws IndexOutOfBoundsException {
        needYear(year);
        needYear(known);
        replay.begin(known);
        replay.goTo(year);
        queue.lineUp();
        return k < 1 ? NONE : queue.personAt(k - 1);
    }

    public int freed(int n) throws IllegalArgumentException, UnsupportedOperationException {
        needBetween(n, 0, 9);
        needRoom(now.freed);
        now.freed.set(now.freed.open(), 0, n);
        return now.freed.size();
    }

    public int howLong(int k, boolean most) throws IllegalArgumentException {
        needBetween(k, 1, MOST_WAITERS);
        int many = now.freed.get(0, 0);
        for (int i = 1; i < now.freed.size(); i++) {
            int other = now.freed.get(i, 0);
            many = most ? Math.min(many, other) : Math.max(many, other);
        }
        return many < 1 ? NONE : (k + many - 1) / many;
    }

    // ---- SALES

    public int toll(int year, int hundredths) throws IndexOutOfBoundsException, IllegalArgumentException {
        needYear(year);
        needBetween(hundredths, 0, 100);
        int sum = 0;
        replay.begin(now.today);
        for (int i = 0; i < now.events.size(); i++) {
            if (now.events.get(i, YEAR) == year && replay.sells(i)) {
                sum += now.events.get(i, PRICE) * hundredths / 100;
            }
            replay.step();
        }
        return sum;
    }

    public int dodged(int times) throws IllegalArgumentException {
        needBetween(times, 1, 99);
        int many = 0;
        replay.begin(now.today);
        before.begin(now.today);
        for (int i = 0; i < now.events.size(); i++) {
            // EVENTS stand by their YEARS: so the second replay, one YEAR behind, only ever goes on.
            before.goTo(now.events.get(i, YEAR) - 1);
            if (replay.sells(i) && !replay.sellsToKin(i) && isCheap(i, times)) {
                many++;
            }
            replay.step();
        }
        return many;
    }

    private boolean isCheap(int event, int times) {
        boolean hasYearBefore = now.events.get(event, YEAR) > FIRST_YEAR;
        long rent = hasYearBefore ? before.rentOf(now.events.get(event, ONE)) : 0;
        return now.events.get(event, PRICE) < rent * times;
    }

    // ---- LIFTS and the crane

    public int lift(int set, int piles, int how, int hut)
            throws IndexOutOfBoundsException, IllegalArgumentException {
        if (hut != NONE) {
            needHut(hut);
        }
        needBetween(piles, 1, MOST_PILES);
        needBetween(how, 0, 2);
        int lifted = set & now.hutBits();
        need(Integer.bitCount(lifted) <= MOST_LIFTED);
        replay.begin(now.today);
        replay.goTo(now.today);
        yard.clear(piles);
        for (int i = 0; i < now.huts.size(); i++) {
            int next = replay.hutAt(i);
            if ((lifted >> next & 1) != 0) {
                int rank = how == 0 ? i : how == 1 ? -i : next;
                yard.bring(next, now.huts.get(next, SIZE), rank);
            }
        }
        yard.search();
        return hut == NONE ? yard.least() : yard.pileOf(hut);
    }

    public void wind(int day, int n) throws IndexOutOfBoundsException, IllegalArgumentException {
        needIndex(day, DAYS);
        needBetween(n, 0, 9);
        now.winds.set(day, 0, n);
    }

    public int crane(int set, int day, int many, boolean ordered)
            throws IndexOutOfBoundsException, IllegalArgumentException {
        needIndex(day, DAYS);
        needBetween(many, 1, 9);
        int left = set & now.hutBits();
        for (int today = day; today < DAYS; today++) {
            int reach = STRONGEST - now.winds.get(today, 0);
            for (int i = 0; i < many && left != 0; i++) {
                int next = ordered ? firstWithin(left, reach) : largestWithin(left, reach);
                if (next == NONE) {
                    break;
                }
                left &= ~(1 << next);
            }
            if (left == 0) {
                return today;
            }
        }
        return NONE;
    }

    private int firstWithin(int set, int reach) {
        int first = Integer.numberOfTrailingZeros(set);
        return now.huts.get(first, SIZE) <= reach ? first : NONE;
    }

    /** A DAY on which a large HUT can be lifted is good for every smaller one: the largest goes first. */
    private int largestWithin(int set, int reach) {
        int largest = NONE;
        for (int hut = 0; hut < now.huts.size(); hut++) {
            int size = now.huts.get(hut, SIZE);
            boolean fits = (set >> hut & 1) != 0 && size <= reach;
            if (fits && (largest == NONE || size > now.huts.get(largest, SIZE))) {
                largest = hut;
            }
        }
        return largest;
    }

    // ---- STORMS

    public void line(int hut, int low, int high) throws IndexOutOfBoundsException, IllegalArgumentException {
        needHut(hut);
        needBetween(low, 0, TOP_LINE);
        needBetween(high, low, TOP_LINE);
        now.huts.set(hut, LOW, low);
        now.huts.set(hut, HIGH, high);
    }

    public int storm(int year, int moved)
            throws IndexOutOfBoundsException, IllegalArgumentException, UnsupportedOperationException {
        needYear(year);
        need((moved & ~now.hutBits()) == 0);
        needRoom(now.storms);
        int number = now.storms.open();
        now.storms.set(number, YEAR, year);
        now.storms.set(number, TOLD, now.today);
        now.storms.set(number, MOVED_BITS, moved);
        return number;
    }

    public int sea(int storm, int known, boolean most) throws IndexOutOfBoundsException {
        needIndex(storm, now.storms.size());
        needYear(known);
        return shore.solves(known) ? shore.seaOf(storm, most) : NONE;
    }

    public int level(int hut, int known, boolean most) throws IndexOutOfBoundsException {
        needHut(hut);
        needYear(known);
        return shore.solves(known) ? shore.lineOf(hut, most) : NONE;
    }

    public int flood(int sea, int known, boolean may) throws IndexOutOfBoundsException, IllegalArgumentException {
        needYear(known);
        needBetween(sea, 0, TOP_SEA);
        if (!shore.solves(known)) {
            return NONE;
        }
        int bits = 0;
        for (int hut = 0; hut < now.huts.size(); hut++) {
            if (sea > shore.lineOf(hut, !may)) {
                bits |= 1 << hut;
            }
        }
        return bits;
    }

    // ---- PLANKS

    public void lost(int hut, int planks, int colour) throws IndexOutOfBoundsException, IllegalArgumentException {
        needHut(hut);
        needBetween(planks, 0, 4);
        needBetween(colour, 0, LAST_COLOUR);
        now.huts.set(hut, LOST, planks);
        now.huts.set(hut, COLOUR, colour);
    }

    public int plank(int colours, int place, int far)
            throws IndexOutOfBoundsException, IllegalArgumentException, UnsupportedOperationException {
        needIndex(place, LAST_PLACE + 1);
        needBetween(colours, 1, ALL_COLOURS);
        needBetween(far, 0, 9);
        needRoom(now.planks);
        int number = now.planks.open();
        now.planks.set(number, PLANK_COLOURS, colours);
        now.planks.set(number, PLANK_PLACE, place);
        now.planks.set(number, PLANK_FAR, far);
        return number;
    }

    public long rows() {
        replay.begin(now.today);
        replay.goTo(now.today);
        return road.ways();
    }

    public int whose(int plank) throws IndexOutOfBoundsException {
        needIndex(plank, now.planks.size());
        replay.begin(now.today);
        replay.goTo(now.today);
        return road.ownersOf(plank);
    }

    // ---- PHOTOGRAPHS and paint

    public int photo(int hut, int year, int colour)
            throws IndexOutOfBoundsException, IllegalArgumentException, UnsupportedOperationException {
        needHut(hut);
        needYear(year);
        needBetween(colour, 0, LAST_COLOUR);
        needRoom(now.photos);
        int row = now.photos.openByYear(year);
        now.photos.set(row, PHOTO_HUT, hut);
        now.photos.set(row, PHOTO_COLOUR, colour);
        return now.photos.size();
    }

    public int allowed(int hut, int year) throws IndexOutOfBoundsException {
        needHut(hut);
        needYear(year);
        replay.begin(now.today);
        replay.goTo(year);
        return replay.coloursOf(hut);
    }

    public int breaches(int hut) throws IndexOutOfBoundsException {
        needHut(hut);
        int many = 0;
        replay.begin(now.today);
        for (int i = 0; i < now.photos.size(); i++) {
            if (now.photos.get(i, PHOTO_HUT) == hut) {
                replay.goTo(now.photos.get(i, YEAR));
                int colours = replay.coloursOf(hut);
                many += 1 - (colours >> now.photos.get(i, PHOTO_COLOUR) & 1);
            }
        }
        return many;
    }

    public int painted(int hut) throws IndexOutOfBoundsException {
        needHut(hut);
        int many = 0;
        int last = NONE;
        for (int i = 0; i < now.photos.size(); i++) {
            if (now.photos.get(i, PHOTO_HUT) == hut) {
                int colour = now.photos.get(i, PHOTO_COLOUR);
                many += last != NONE && last != colour ? 1 : 0;
                last = colour;
            }
        }
        return many;
    }

    // ---- THIEVES

    public int thief(int night) throws IllegalArgumentException, UnsupportedOperationException {
        needBetween(night, 0, LAST_NIGHT);
        needRoom(now.nights);
        now.nights.set(now.nights.open(), 0, night);
        return now.nights.size();
    }

    public int thieves(boolean next) {
        if (now.nights.size() < 2) {
            return NONE;
        }
        int last = 0;
        for (int i = 0; i < now.nights.size(); i++) {
            last = Math.max(last, now.nights.get(i, 0));
        }
        for (int period = LEAST_PERIOD; period <= MOST_PERIOD; period++) {
            if (allFallOn(period, last)) {
                return next ? last + period : period;
            }
        }
        return NONE;
    }

    private boolean allFallOn(int period, int last) {
        for (int i = 0; i < now.nights.size(); i++) {
            if (period < 1 || (last - now.nights.get(i, 0)) % period != 0) {
                return false;
            }
        }
        return true;
    }

    // ---- THE IMAGE, and how many

    public void image() {
        kept.copy(now);
        hasImage = true;
    }

    public boolean back() {
        if (hasImage) {
            now.copy(kept);
        }
        return hasImage;
    }

    public int count(int what) {
        switch (what) {
            case 0:
                return now.persons.size();
            case 1:
                return now.huts.size();
            case 2:
                return now.events.size();
            case 3:
                return now.today;
            case 4:
                return now.waiters.size();
            case 5:
                return now.storms.size();
            case 6:
                return now.planks.size();
            case 7:
                return now.photos.size();
            case 8:
                replay.begin(now.today);
                replay.goTo(now.today);
                return replay.livingMany();
            case 9:
                replay.begin(now.today);
                replay.goTo(now.today);
                return replay.heldMany();
            default:
                return NONE;
        }
    }

    // ---- what a call asks of its numbers

    private void needHutInYears(int hut, int year, int known) {
        needHut(hut);
        needYear(year);
        needYear(known);
    }

    private void needHut(int hut) {
        needIndex(hut, now.huts.size());
    }

    private void needPerson(int person) {
        needIndex(person, now.persons.size());
    }

    private static void needYear(int year) {
        if (year < FIRST_YEAR || year > LAST_YEAR) {
            throw new IndexOutOfBoundsException();
        }
    }

    private static void needIndex(int n, int many) {
        if (n < 0 || n >= many) {
            throw new IndexOutOfBoundsException();
        }
    }

    private static void needBetween(int n, int least, int most) {
        need(n >= least && n <= most);
    }

    private static void need(boolean right) {
        if (!right) {
            throw new IllegalArgumentException();
        }
    }

    private static void needRoom(Table table) {
        if (table.isFull()) {
            throw new UnsupportedOperationException();
        }
    }

    /** Rows of numbers in one array, so that an object is made of few parts and an image is one copy. */
    private static final class Table {
        private final int width;
        private final int most;
        private final int[] cells;
        private int size;

        Table(int most, int width) {
            this.most = Math.max(most, 0);
            this.width = Math.max(width, 1);
            cells = new int[this.most * this.width];
        }

        int size() {
            return size;
        }

        boolean isFull() {
            return size >= most;
        }

        int get(int row, int part) {
            boolean has = row >= 0 && row < size && part >= 0 && part < width;
            return has ? cells[row * width + part] : 0;
        }

        void set(int row, int part, int value) {
            if (row >= 0 && row < size && part >= 0 && part < width) {
                cells[row * width + part] = value;
            }
        }

        void clear() {
            size = 0;
        }

        /** A new last row of zeros: its number. */
        int open() {
            return openAt(size);
        }

        /** A new row behind all of its YEAR and before: so those of one YEAR stay as they were told. */
        int openByYear(int year) {
            int at = size;
            while (at > 0 && get(at - 1, YEAR) > year) {
                at--;
            }
            openAt(at);
            set(at, YEAR, year);
            return at;
        }

        int openAt(int row) {
            if (size >= most || row < 0 || row > size) {
                return NONE;
            }
            int from = row * width;
            for (int i = size * width - 1; i >= from; i--) {
                cells[i + width] = cells[i];
            }
            for (int i = from; i < from + width; i++) {
                cells[i] = 0;
            }
            size++;
            return row;
        }

        void openAll() {
            size = most;
            Arrays.fill(cells, 0);
        }

        void copy(Table other) {
            if (other != null && other.width == width && other.size <= most) {
                size = other.size;
                System.arraycopy(other.cells, 0, cells, 0, size * width);
            }
        }
    }

    /** All that was told: what THE IMAGE keeps. */
    private static final class Told {
        private int today = FIRST_TODAY;
        private final Table persons = new Table(MOST_PERSONS, 3);
        private final Table huts = new Table(MOST_HUTS, 7);
        private final Table events = new Table(MOST_EVENTS, 6);
        private final Table waiters = new Table(MOST_WAITERS, 3);
        private final Table freed = new Table(MOST_FREED, 1);
        private final Table winds = new Table(DAYS, 1);
        private final Table storms = new Table(MOST_STORMS, 3);
        private final Table planks = new Table(MOST_PLANKS, 3);
        private final Table photos = new Table(MOST_PHOTOS, 3);
        private final Table nights = new Table(MOST_NIGHTS, 1);
        private final Text[] texts = new Text[SORTS];

        Told() {
            winds.openAll();
        }

        int hutBits() {
            return (1 << huts.size()) - 1;
        }

        /** The text in force; null ahead of any. */
        Text inForce(int sort) {
            return sort >= 0 && sort < SORTS ? texts[sort] : null;
        }

        void enforce(int sort, Text fresh) {
            if (sort >= 0 && sort < SORTS) {
                texts[sort] = fresh;
            }
        }

        void copy(Told other) {
            if (other == null) {
                return;
            }
            today = other.today;
            persons.copy(other.persons);
            huts.copy(other.huts);
            events.copy(other.events);
            waiters.copy(other.waiters);
            freed.copy(other.freed);
            winds.copy(other.winds);
            storms.copy(other.storms);
            planks.copy(other.planks);
            photos.copy(other.photos);
            nights.copy(other.nights);
            for (int sort = 0; sort < SORTS; sort++) {
                texts[sort] = other.texts[sort];
            }
        }
    }

    /** A text that was right. It never changes, so that THE IMAGE may share it. */
    private static final class Text {
        private final Table lines;
        private final int[] code;

        Text(Table lines, int[] code) {
            this.lines = lines;
            this.code = code;
        }

        int size() {
            return lines.size();
        }

        int what(int number) {
            return lines.get(number, LINE_WHAT);
        }

        boolean holds(int number, Facts facts) {
            int from = lines.get(number, LINE_FROM);
            int to = Math.min(lines.get(number, LINE_TO), code.length);
            facts.clear();
            for (int i = from; i < to; i++) {
                facts.use(code[i]);
            }
            return from >= to || facts.isTrue();
        }

        int total(Facts facts) {
            int sum = 0;
            for (int i = 0; i < lines.size(); i++) {
                if (holds(i, facts)) {
                    int fact = lines.get(i, LINE_FACT);
                    int factor = fact == NONE ? 1 : facts.of(fact);
                    sum += lines.get(i, LINE_WHAT) * lines.get(i, LINE_NUMBER) * factor;
                }
            }
            return sum;
        }

        int colours(Facts facts) {
            int bits = 0;
            for (int i = 0; i < lines.size(); i++) {
                if (holds(i, facts)) {
                    bits |= 1 << lines.get(i, LINE_WHAT);
                }
            }
            return bits;
        }
    }

    /** The FACTS that a text asks for, and the stack on which its conditions are reckoned. */
    private static final class Facts {
        private final int[] values = new int[FACTS];
        private final int[] stack = new int[24];
        private int top;

        void know(int fact, int value) {
            if (fact >= 0 && fact < FACTS) {
                values[fact] = value;
            }
        }

        int of(int fact) {
            return fact >= 0 && fact < FACTS ? values[fact] : 0;
        }

        void clear() {
            top = 0;
        }

        boolean isTrue() {
            return top > 0 && stack[0] != 0;
        }

        void use(int item) {
            if (item >= 0) {
                push(item);
            } else if (item > PLUS) {
                push(of(-1 - item));
            } else if (item == NOT && top > 0) {
                stack[top - 1] = 1 - stack[top - 1];
            } else if (top > 1) {
                top--;
                stack[top - 1] = join(item, stack[top - 1], stack[top]);
            }
        }

        private void push(int value) {
            if (top < stack.length) {
                stack[top] = value;
                top++;
            }
        }

        private static int join(int sign, int left, int right) {
            switch (sign) {
                case PLUS:
                    return left + right;
                case BELOW:
                    return left < right ? 1 : 0;
                case ABOVE:
                    return left > right ? 1 : 0;
                case AND:
                    return left & right;
                default:
                    return left | right;
            }
        }
    }

    /** The TAPE, and how a text on it is read. */
    private static final class Reader {
        private final int[] tape = new int[MOST_TAPE];
        private int length;
        private int sort;
        // The thing that stands next: where it begins, where it ends, what it is.
        private int begin;
        private int after;
        private int thing;
        private int value;
        private final Table lines = new Table(MOST_LINES, LINE_PARTS);
        private final int[] code = new int[MOST_TAPE];
        private int codeLength;

        int length() {
            return length;
        }

        boolean hasRoom(int bytes) {
            return length + bytes <= MOST_TAPE;
        }

        void addNumber(int number) {
            for (int shift = 24; shift >= 0 && length < MOST_TAPE; shift -= 8) {
                tape[length] = number >> shift & 255;
                length++;
            }
        }

        void cut(int n) {
            length = Math.max(0, Math.min(n, length));
        }

        int wrongAt() {
            return begin;
        }

        Text compiled() {
            Table own = new Table(lines.size(), LINE_PARTS);
            own.copy(lines);
            return new Text(own, Arrays.copyOf(code, codeLength));
        }

        /** False if the text is wrong: then the first wrong thing is the one that stands next. */
        boolean reads(int sort) {
            this.sort = sort;
            lines.clear();
            codeLength = 0;
            after = 0;
            next();
            if (thing == THE_END) {
                return true;
            }
            for (int i = 0; i < MOST_LINES; i++) {
                if (!readLine()) {
                    return false;
                }
                if (thing == THE_END) {
                    return true;
                }
                if (thing != ';') {
                    return false;
                }
                next();
            }
            return false;
        }

        private boolean readLine() {
            int row = lines.open();
            lines.set(row, LINE_FACT, NONE);
            lines.set(row, LINE_FROM, codeLength);
            boolean right = sort == RIGHTS ? readRight(row) : sort == PAINT ? readColour(row) : readAmount(row);
            if (right && thing == WORD_IF) {
                next();
                right = readCondition(0);
            }
            lines.set(row, LINE_TO, codeLength);
            return right;
        }

        private boolean readRight(int row) {
            if (thing != WORD_TO) {
                return false;
            }
            next();
            if (thing < WORD_SPOUSE || thing > WORD_BROTHER) {
                return false;
            }
            lines.set(row, LINE_WHAT, thing - WORD_SPOUSE);
            next();
            return true;
        }

        private boolean readColour(int row) {
            if (thing != WORD_ALLOW) {
                return false;
            }
            next();
            if (thing != A_NUMBER || value > LAST_COLOUR) {
                return false;
            }
            lines.set(row, LINE_WHAT, value);
            next();
            return true;
        }

        private boolean readAmount(int row) {
            if (thing != WORD_ADD && thing != WORD_LESS) {
                return false;
            }
            lines.set(row, LINE_WHAT, thing == WORD_ADD ? ADDS : LESSENS);
            next();
            if (thing != A_NUMBER) {
                return false;
            }
            lines.set(row, LINE_NUMBER, value);
            next();
            if (thing != '*') {
                return true;
            }
            next();
            if (!isFact()) {
                return false;
            }
            lines.set(row, LINE_FACT, thing);
            next();
            return true;
        }

        private boolean readCondition(int deep) {
            boolean hasAnd = false;
            boolean hasOr = false;
            for (int i = 0; i < MOST_TAPE; i++) {
                if (!readAtom(deep)) {
                    return false;
                }
                if (hasAnd) {
                    emit(AND);
                }
                hasAnd = thing == WORD_AND;
                if (!hasAnd) {
                    if (hasOr) {
                        emit(OR);
                    }
                    hasOr = thing == WORD_OR;
                    if (!hasOr) {
                        return true;
                    }
                }
                next();
            }
            return false;
        }

        private boolean readAtom(int deep) {
            if (thing == WORD_LOCAL && sort != PAINT) {
                emit(-1 - FACT_LOCAL);
                next();
                return true;
            }
            if (thing == WORD_NOT || thing == '(') {
                return deep < MOST_DEEP && readWithin(deep + 1);
            }
            if (!readSum() || thing != '<' && thing != '>') {
                return false;
            }
            int sign = thing == '<' ? BELOW : ABOVE;
            next();
            boolean right = readSum();
            emit(sign);
            return right;
        }

        private boolean readWithin(int deep) {
            boolean isNot = thing == WORD_NOT;
            next();
            if (isNot) {
                boolean right = readAtom(deep);
                emit(NOT);
                return right;
            }
            if (!readCondition(deep) || thing != ')') {
                return false;
            }
            next();
            return true;
        }

        private boolean readSum() {
            for (int i = 0; i < MOST_TAPE; i++) {
                if (thing != A_NUMBER && !isFact()) {
                    return false;
                }
                emit(thing == A_NUMBER ? value : -1 - thing);
                if (i > 0) {
                    emit(PLUS);
                }
                next();
                if (thing != '+') {
                    return true;
                }
                next();
            }
            return false;
        }

        private boolean isFact() {
            boolean isWord = thing >= 0 && thing < FACT_LOCAL && sort >= 0 && sort < FACTS_OF_SORT.length;
            return isWord && (FACTS_OF_SORT[sort] >> thing & 1) != 0;
        }

        private void emit(int item) {
            if (codeLength < code.length) {
                code[codeLength] = item;
                codeLength++;
            }
        }

        private void next() {
            begin = after;
            while (begin < length && tape[begin] == ' ') {
                begin++;
            }
            after = begin;
            if (begin >= length) {
                thing = THE_END;
                return;
            }
            int first = tape[begin];
            if (first >= '0' && first <= '9') {
                takeNumber();
            } else if (first >= 'a' && first <= 'z') {
                takeWord();
            } else {
                after = begin + 1;
                boolean isSign = first >= '(' && first <= '+' || first == ';' || first == '<' || first == '>';
                thing = isSign ? first : NOTHING;
            }
        }

        private void takeNumber() {
            value = 0;
            while (after < length && tape[after] >= '0' && tape[after] <= '9') {
                value = Math.min(value, MOST_NUMBER) * 10 + tape[after] - '0';
                after++;
            }
            thing = after - begin <= 4 ? A_NUMBER : NOTHING;
        }

        private void takeWord() {
            while (after < length && tape[after] >= 'a' && tape[after] <= 'z') {
                after++;
            }
            thing = NOTHING;
            int word = 0;
            int same = 0;
            for (int i = 0; i < WORDS.length() && thing == NOTHING; i++) {
                char letter = WORDS.charAt(i);
                if (letter == ' ') {
                    thing = same == after - begin ? word : NOTHING;
                    word++;
                    same = 0;
                } else if (same >= 0 && same < after - begin && tape[begin + same] == letter) {
                    same++;
                } else {
                    same = NONE;
                }
            }
        }
    }

    /** Goes through the EVENTS known in a YEAR, by their YEARS; then it tells how all stands. */
    private static final class Replay {
        private final Told told;
        private int known;
        private int year;
        private int nextEvent;
        private int gone;
        private final Table people = new Table(MOST_PERSONS, 3);
        private final Table held = new Table(MOST_HUTS, 2);
        private final Table row = new Table(MOST_HUTS, 1);
        private final Facts facts = new Facts();

        Replay(Told told) {
            this.told = told;
        }

        void begin(int known) {
            this.known = known;
            year = FIRST_YEAR;
            nextEvent = 0;
            gone = 0;
            people.clear();
            for (int person = 0; person < told.persons.size(); person++) {
                people.set(people.open(), PARTNER, NONE);
            }
            held.clear();
            row.clear();
            for (int hut = 0; hut < told.huts.size(); hut++) {
                held.open();
                hold(hut, told.huts.get(hut, FIRST_HOLDER), FIRST_YEAR);
                row.set(row.open(), 0, hut);
            }
        }

        /** After all EVENTS of the YEAR and before. */
        void goTo(int year) {
            for (int i = nextEvent; i < told.events.size() && told.events.get(i, YEAR) <= year; i++) {
                step();
            }
            this.year = year;
        }

        void step() {
            int event = nextEvent;
            nextEvent++;
            if (told.events.get(event, TOLD) > known) {
                return;
            }
            int when = told.events.get(event, YEAR);
            int a = told.events.get(event, ONE);
            int b = told.events.get(event, OTHER);
            switch (told.events.get(event, KIND)) {
                case DIED:
                    die(a, when);
                    break;
                case WED:
                    people.set(a, PARTNER, b);
                    people.set(b, PARTNER, a);
                    break;
                case PARTED:
                    leave(a, b);
                    leave(b, a);
                    break;
                case CHILD:
                    people.set(a, KIDS, people.get(a, KIDS) | 1 << b);
                    people.set(b, PARENTS, people.get(b, PARENTS) | 1 << a);
                    break;
                case SALE:
                    if (sells(event)) {
                        hold(a, b, when);
                    }
                    break;
                case GIVEN:
                    if (holderOf(a) == NONE && lives(b)) {
                        hold(a, b, when);
                    }
                    break;
                default:
                    move(a, b);
            }
        }

        /** If the EVENT is a known SALE by which the HUT comes to another one, as all stands now. */
        boolean sells(int event) {
            int holder = holderOf(told.events.get(event, ONE));
            int buyer = told.events.get(event, OTHER);
            return told.events.get(event, KIND) == SALE && told.events.get(event, TOLD) <= known
                && holder != NONE && holder != buyer && lives(buyer);
        }

        boolean sellsToKin(int event) {
            int holder = holderOf(told.events.get(event, ONE));
            int buyer = told.events.get(event, OTHER);
            int kin = childrenOf(holder) | people.get(holder, PARENTS) | siblingsOf(holder);
            return spouseOf(holder) == buyer || (kin >> buyer & 1) != 0;
        }

        private void leave(int one, int other) {
            if (people.get(one, PARTNER) == other) {
                people.set(one, PARTNER, NONE);
            }
        }

        private void hold(int hut, int person, int since) {
            held.set(hut, HOLDER, person);
            held.set(hut, SINCE, since);
        }

        private void move(int hut, int place) {
            int from = placeOf(hut);
            int way = from < place ? 1 : -1;
            for (int i = 0; i < MOST_HUTS && from != place; i++) {
                row.set(from, 0, row.get(from + way, 0));
                from += way;
            }
            row.set(place, 0, hut);
        }

        private void die(int person, int when) {
            if (!lives(person)) {
                return;
            }
            gone |= 1 << person;
            for (int hut = 0; hut < held.size(); hut++) {
                if (holderOf(hut) == person) {
                    int heir = heirOf(person, hut, when);
                    hold(hut, heir, when);
                }
            }
        }

        private int heirOf(int person, int hut, int when) {
            Text rights = told.inForce(RIGHTS);
            if (rights == null) {
                return NONE;
            }
            facts.know(FACT_HELD, when - sinceOf(hut));
            facts.know(FACT_SIZE, told.huts.get(hut, SIZE));
            knowPerson(person, when);
            for (int i = 0; i < rights.size(); i++) {
                int heir = rights.holds(i, facts) ? relative(person, rights.what(i)) : NONE;
                if (heir != NONE) {
                    return heir;
                }
            }
            return NONE;
        }

        private int relative(int person, int whom) {
            switch (whom) {
                case WHOM_SPOUSE:
                    return spouseOf(person);
                case WHOM_CHILD:
                    return eldest(childrenOf(person));
                case WHOM_PARENT:
                    return parentOf(person);
                case WHOM_BROTHER:
                    return eldest(siblingsOf(person));
                default:
                    return NONE;
            }
        }

        private void knowPerson(int person, int when) {
            facts.know(FACT_YEAR, when);
            facts.know(FACT_AGE, Math.max(0, when - told.persons.get(person, BORN)));
            facts.know(FACT_CHILDREN, Integer.bitCount(childrenOf(person)));
            facts.know(FACT_LOCAL, told.persons.get(person, NATIVE));
        }

        private void knowHut(int hut) {
            int holder = holderOf(hut);
            facts.know(FACT_YEAR, year);
            facts.know(FACT_SIZE, told.huts.get(hut, SIZE));
            facts.know(FACT_PLACE, placeOf(hut));
            facts.know(FACT_WEEKS, told.huts.get(hut, WEEKS));
            facts.know(FACT_HELD, holder == NONE ? 0 : year - sinceOf(hut));
            facts.know(FACT_LOCAL, holder == NONE ? 0 : told.persons.get(holder, NATIVE));
        }

        int rentOf(int hut) {
            Text rents = told.inForce(RENTS);
            if (rents == null) {
                return 0;
            }
            knowHut(hut);
            return Math.max(0, rents.total(facts));
        }

        int coloursOf(int hut) {
            Text paint = told.inForce(PAINT);
            if (paint == null) {
                return ALL_COLOURS;
            }
            knowHut(hut);
            return paint.colours(facts);
        }

        /** What WAITS tell of one who waits since a YEAR. */
        int claimOf(int person, int since) {
            Text waits = told.inForce(WAITS);
            if (waits == null) {
                return 0;
            }
            knowPerson(person, year);
            facts.know(FACT_WAITED, year - since);
            return waits.total(facts);
        }

        boolean knowsWaiter(int waiter) {
            return told.waiters.get(waiter, WAITS_TOLD) <= known
                && told.waiters.get(waiter, WAITS_SINCE) <= year
                && lives(told.waiters.get(waiter, WHO));
        }

        boolean lives(int person) {
            return (gone >> person & 1) == 0;
        }

        int livingMany() {
            return people.size() - Integer.bitCount(gone);
        }

        int heldMany() {
            int many = 0;
            for (int hut = 0; hut < held.size(); hut++) {
                many += holderOf(hut) == NONE ? 0 : 1;
            }
            return many;
        }

        int hutsOf(int person) {
            int bits = 0;
            for (int hut = 0; hut < held.size(); hut++) {
                bits |= holderOf(hut) == person ? 1 << hut : 0;
            }
            return bits;
        }

        int holderOf(int hut) {
            return held.get(hut, HOLDER);
        }

        int sinceOf(int hut) {
            return held.get(hut, SINCE);
        }

        int hutAt(int place) {
            return row.get(place, 0);
        }

        int placeOf(int hut) {
            int place = 0;
            while (place < row.size() && row.get(place, 0) != hut) {
                place++;
            }
            return place;
        }

        int spouseOf(int person) {
            int partner = people.get(person, PARTNER);
            return partner != NONE && lives(partner) ? partner : NONE;
        }

        int childrenOf(int person) {
            return people.get(person, KIDS) & ~gone;
        }

        int parentOf(int person) {
            int living = people.get(person, PARENTS) & ~gone;
            return living == 0 ? NONE : Integer.numberOfTrailingZeros(living);
        }

        /** The other living children of all parents, be these dead or not. */
        int siblingsOf(int person) {
            int parents = people.get(person, PARENTS);
            int bits = 0;
            for (int parent = 0; parent < people.size(); parent++) {
                if ((parents >> parent & 1) != 0) {
                    bits |= people.get(parent, KIDS);
                }
            }
            return bits & ~gone & ~(1 << person);
        }

        int eldest(int bits) {
            int eldest = NONE;
            for (int person = 0; person < people.size(); person++) {
                boolean isOf = (bits >> person & 1) != 0;
                if (isOf && (eldest == NONE
                        || told.persons.get(person, BORN) < told.persons.get(eldest, BORN))) {
                    eldest = person;
                }
            }
            return eldest;
        }
    }

    /** Those who wait, in their ORDER. */
    private static final class Queue {
        private static final int CLAIM = 0;
        private static final int FROM_YEAR = 1;
        private static final int PERSON = 2;
        private static final int TAKEN = 3;
        private final Told told;
        private final Replay replay;
        private final Table places = new Table(MOST_WAITERS, 4);

        Queue(Told told, Replay replay) {
            this.told = told;
            this.replay = replay;
        }

        void lineUp() {
            places.clear();
            for (int i = 0; i < told.waiters.size(); i++) {
                if (replay.knowsWaiter(i)) {
                    int person = told.waiters.get(i, WHO);
                    int since = told.waiters.get(i, WAITS_SINCE);
                    stepIn(person, since, replay.claimOf(person, since));
                }
            }
        }

        private void stepIn(int person, int since, int claim) {
            int at = places.size();
            while (at > 0 && isAhead(person, since, claim, at - 1)) {
                at--;
            }
            places.openAt(at);
            places.set(at, CLAIM, claim);
            places.set(at, FROM_YEAR, since);
            places.set(at, PERSON, person);
        }

        private boolean isAhead(int person, int since, int claim, int at) {
            if (claim != places.get(at, CLAIM)) {
                return claim > places.get(at, CLAIM);
            }
            if (since != places.get(at, FROM_YEAR)) {
                return since < places.get(at, FROM_YEAR);
            }
            return person < places.get(at, PERSON);
        }

        int personAt(int at) {
            return at < places.size() ? places.get(at, PERSON) : NONE;
        }

        /** The first who was not taken yet and can pay it is taken now; false if there is none. */
        boolean takes(int asked) {
            for (int i = 0; i < places.size(); i++) {
                boolean pays = told.persons.get(places.get(i, PERSON), LIMIT) >= asked;
                if (pays && places.get(i, TAKEN) == 0) {
                    places.set(i, TAKEN, 1);
                    return true;
                }
            }
            return false;
        }
    }

    /** The field with its PILES. */
    private static final class Yard {
        private final int[] huts = new int[MOST_LIFTED];
        private final int[] sizes = new int[MOST_LIFTED];
        private final int[] ranks = new int[MOST_LIFTED];
        private final int[] way = new int[MOST_LIFTED];
        private final int[] bestWay = new int[MOST_LIFTED];
        private final int[] firstBack = new int[MOST_PILES];
        private int many;
        private int piles;
        private int best;

        void clear(int piles) {
            this.piles = Math.min(piles, MOST_PILES);
            many = 0;
            Arrays.fill(firstBack, Integer.MAX_VALUE);
        }

        /** The next HUT that goes; of two the one with the lower rank comes back ahead. */
        void bring(int hut, int size, int rank) {
            if (many < MOST_LIFTED) {
                huts[many] = hut;
                sizes[many] = size;
                ranks[many] = rank;
                many++;
            }
        }

        void search() {
            best = Integer.MAX_VALUE;
            pile(0, 0, 0);
        }

        /**
         * Ways are tried as they follow one another, and only a better one is taken: so the first stays.
         * PILES that are still empty are all alike: the least of them is enough.
         */
        private void pile(int at, int used, int twice) {
            if (twice >= best || at > MOST_LIFTED) {
                return;
            }
            if (at >= many) {
                best = twice;
                System.arraycopy(way, 0, bestWay, 0, many);
                return;
            }
            int open = Math.min(used + 1, piles);
            for (int pile = 0; pile < open; pile++) {
                int first = firstBack[pile];
                int again = first < ranks[at] ? sizes[at] : 0;
                way[at] = pile;
                firstBack[pile] = Math.min(first, ranks[at]);
                pile(at + 1, Math.max(used, pile + 1), twice + again);
                firstBack[pile] = first;
            }
        }

        int least() {
            return best;
        }

        int pileOf(int hut) {
            for (int i = 0; i < many; i++) {
                if (huts[i] == hut) {
                    return bestWay[i];
                }
            }
            return NONE;
        }
    }

    /**
     * What STORMS tell: of each LINE and each SEA from where to where it can be. Every STORM known says of
     * every HUT that one of the two is at least the other; as long as no range is empty, all lowest numbers
     * together are a whole row, and so are all highest ones.
     */
    private static final class Shore {
        private static final int MOST_ROUNDS = 5000;
        private final Told told;
        private final int[] lowLine = new int[MOST_HUTS];
        private final int[] highLine = new int[MOST_HUTS];
        private final int[] lowSea = new int[MOST_STORMS];
        private final int[] highSea = new int[MOST_STORMS];
        private boolean changed;

        Shore(Told told) {
            this.told = told;
        }

        /** False if there is no row of LINES and SEAS. */
        boolean solves(int known) {
            for (int hut = 0; hut < told.huts.size(); hut++) {
                lowLine[hut] = told.huts.get(hut, LOW);
                highLine[hut] = told.huts.get(hut, HIGH);
            }
            Arrays.fill(lowSea, 0);
            Arrays.fill(highSea, TOP_SEA);
            changed = true;
            for (int i = 0; i < MOST_ROUNDS && changed; i++) {
                changed = false;
                if (!narrows(known)) {
                    return false;
                }
            }
            return true;
        }

        private boolean narrows(int known) {
            for (int storm = 0; storm < told.storms.size(); storm++) {
                if (told.storms.get(storm, TOLD) > known) {
                    continue;
                }
                int moved = told.storms.get(storm, MOVED_BITS);
                for (int hut = 0; hut < told.huts.size(); hut++) {
                    if ((moved >> hut & 1) != 0) {
                        seaAboveLine(storm, hut);
                    } else {
                        seaNotAboveLine(storm, hut);
                    }
                    if (lowLine[hut] > highLine[hut] || lowSea[storm] > highSea[storm]) {
                        return false;
                    }
                }
            }
            return true;
        }

        private void seaAboveLine(int storm, int hut) {
            if (lowSea[storm] <= lowLine[hut]) {
                lowSea[storm] = lowLine[hut] + 1;
                changed = true;
            }
            if (highLine[hut] >= highSea[storm]) {
                highLine[hut] = highSea[storm] - 1;
                changed = true;
            }
        }

        private void seaNotAboveLine(int storm, int hut) {
            if (lowLine[hut] < lowSea[storm]) {
                lowLine[hut] = lowSea[storm];
                changed = true;
            }
            if (highSea[storm] > highLine[hut]) {
                highSea[storm] = highLine[hut];
                changed = true;
            }
        }

        int seaOf(int storm, boolean most) {
            if (storm < 0 || storm >= MOST_STORMS) {
                return NONE;
            }
            return most ? highSea[storm] : lowSea[storm];
        }

        int lineOf(int hut, boolean most) {
            if (hut < 0 || hut >= MOST_HUTS) {
                return NONE;
            }
            return most ? highLine[hut] : lowLine[hut];
        }
    }

    /** PLANKS on the road: of each set of them, what is known of the HUTS looked at so far. */
    private static final class Road {
        private final Told told;
        private final Replay replay;
        private final long[] sets = new long[1 << MOST_PLANKS];
        private int all;
        private int lost;

        Road(Told told, Replay replay) {
            this.told = told;
            this.replay = replay;
        }

        /** In how many ways all PLANKS can be shared out. */
        long ways() {
            clear();
            for (int hut = 0; hut < told.huts.size(); hut++) {
                int fitting = fittingTo(hut);
                for (int set = all; set > 0 && fitting != 0; set--) {
                    sets[set] = sumOver(set, fitting);
                }
            }
            return sets[all];
        }

        private long sumOver(int set, int fitting) {
            int most = set & fitting;
            long sum = sets[set];
            for (int part = most; part > 0; part = (part - 1) & most) {
                if (Integer.bitCount(part) <= lost) {
                    sum += sets[set ^ part];
                }
            }
            return sum;
        }

        /** Sets with the PLANK hold the HUTS it can be of, others 1 if they can be shared out at all. */
        int ownersOf(int plank) {
            clear();
            for (int hut = 0; hut < told.huts.size(); hut++) {
                int fitting = fittingTo(hut);
                for (int set = all; set > 0 && fitting != 0; set--) {
                    sets[set] = joinOver(set, fitting, 1 << plank, 1L << hut);
                }
            }
            return (int) sets[all];
        }

        private long joinOver(int set, int fitting, int plankBit, long hutBit) {
            int most = set & fitting;
            long joined = sets[set];
            for (int part = most; part > 0; part = (part - 1) & most) {
                long others = sets[set ^ part];
                if (others != 0 && Integer.bitCount(part) <= lost) {
                    joined |= (part & plankBit) != 0 ? hutBit : others;
                }
            }
            return joined;
        }

        private void clear() {
            all = (1 << told.planks.size()) - 1;
            Arrays.fill(sets, 0L);
            sets[0] = 1;
        }

        /** The PLANKS that can be of a HUT; none, if it has lost none. */
        private int fittingTo(int hut) {
            lost = told.huts.get(hut, LOST);
            if (lost == 0) {
                return 0;
            }
            int colour = told.huts.get(hut, COLOUR);
            int place = replay.placeOf(hut);
            int bits = 0;
            for (int plank = 0; plank < told.planks.size(); plank++) {
                int away = Math.abs(told.planks.get(plank, PLANK_PLACE) - place);
                boolean hasColour = (told.planks.get(plank, PLANK_COLOURS) >> colour & 1) != 0;
                if (hasColour && away <= told.planks.get(plank, PLANK_FAR)) {
                    bits |= 1 << plank;
                }
            }
            return bits;
        }
    }
}
