/** Sentences that stand between those of the other tests, so that all words of the document have a test. */
final class WordsEdges {
    /** PERSON 0 with SPOUSE 1, children 2 and 3, PARENT 4, BROTHER 5, and the HUTS 0 and 2. */
    private static final String[] FAMILY = {
        "person(1920, 100, true) = 0", "person(1922, 100, true) = 1", "person(1950, 100, true) = 2",
        "person(1948, 100, true) = 3", "person(1900, 100, true) = 4", "person(1918, 100, true) = 5",
        "hut(5, 0, 2) = 0", "hut(5, NONE, 2) = 1", "hut(5, 0, 2) = 2", "event(1945, 1, 0, 1) = 1",
        "event(1950, 3, 0, 2) = 2", "event(1948, 3, 0, 3) = 3", "event(1920, 3, 4, 0) = 4", "event(1918, 3, 4, 5) = 5"};

    private WordsEdges() {
    }

    static void tell(Edges edges) {
        calls(edges);
        today(edges);
        people(edges);
        holders(edges);
        rights(edges);
        amounts(edges);
        atoms(edges);
        sums(edges);
        wrong(edges);
        rents(edges);
        waiters(edges);
        lifts(edges);
        crane(edges);
        storms(edges);
        road(edges);
        photographs(edges);
        thieves(edges);
        image(edges);
    }

    /** Two calls that tell, a hundred readings of four calls each, and questions up to the 512th call. */
    private static void calls(Edges edges) {
        edges.holds(15, "An object is used for at most 512 calls after it has been made;", "person(1950, 100, true) = 0",
            "hut(5, 0, 0) = 0", "99 times read(1, 'add 9 * size') = 1", "read(1, 'add 7 * size') = 1",
            "109 times rent(0, 1980, 1980) = 35", "rent(0, 1980, 1980) = 35");
    }

    private static void today(Edges edges) {
        edges.holds(1, "TODAY (1980 at first): what is told is known from TODAY on.", World.of(1, 0, "count(3) = 1980",
            "event(1970, 0, 0, 0) = 1", "about(0, 1970, 1979, 0) = 1", "about(0, 1970, 1980, 0) = 0"));
        edges.holds(6, "TODAY is so many YEARS later: which it is.", "years(0) = 1980", "years(1) = 1981",
            "count(3) = 1981", "years(118) = 2099", "years(0) = 2099", "years(1) throws IllegalArgument",
            "years(-1) throws IllegalArgument", "count(3) = 2099");
    }

    private static void people(Edges edges) {
        edges.holds(7, ": BORN in a YEAR,", "person(1900, 0, true) = 0", "person(2099, 0, true) = 1",
            "person(1899, 0, true) throws IllegalArgument", "person(2100, 0, true) throws IllegalArgument");
        edges.holds(7, "A PERSON: its number.", "person(1950, 0, true) = 0", "person(1950, 0, true) = 1",
            "9 times person(1950, 0, true) = 10", "person(1950, 0, true) = 11",
            "person(1950, 0, true) throws UnsupportedOperation", "count(0) = 12");
        edges.holds(14, "Of a PERSON IN a YEAR, as known, what 0 1 if LIVING, 1 SPOUSE, 2 CHILDREN, 3 the ELDEST, "
            + "4 PARENT, 5 BROTHER, 6 HUTS that it holds, as bits", World.and(FAMILY, "about(0, 1950, 1980, 0) = 1",
            "about(0, 1950, 1980, 1) = 1", "about(0, 1950, 1980, 2) = 2", "about(0, 1950, 1980, 3) = 3",
            "about(0, 1950, 1980, 4) = 4", "about(0, 1950, 1980, 5) = 5", "about(0, 1950, 1980, 6) = 5",
            "about(1, 1950, 1980, 2) = 0", "about(1, 1950, 1980, 6) = 0",
            "about(0, 1950, 1980, 7) throws NoSuchElement", "about(0, 1950, 1980, -1) throws NoSuchElement"));
        // IN a YEAR, and as known in one.
        edges.holds(14, "Of a PERSON IN a YEAR, as known,", World.and(FAMILY, "about(0, 1947, 1980, 2) = 0",
            "about(0, 1948, 1980, 2) = 1", "about(0, 1949, 1980, 2) = 1", "about(0, 1950, 1979, 2) = 0",
            "about(0, 1944, 1980, 1) = -1", "about(0, 1945, 1979, 1) = -1", "about(0, 1945, 1980, 1) = 1"));
    }

    private static void holders(Edges edges) {
        edges.holds(8, ", a first HOLDER (or none),", World.of(2, 0, "hut(1, 1, 0) = 0", "hut(1, NONE, 0) = 1",
            "holder(0, 1900, 1900) = 1", "holder(1, 1900, 1900) = -1", "hut(1, 2, 0) throws IndexOutOfBounds",
            "hut(1, -2, 0) throws IndexOutOfBounds", "count(9) = 1"));
        edges.holds(11, "HOLDER of a HUT: SALE: if it has one who is not b, b holds it then, if b lives;", World.of(3, 0,
            "hut(1, 0, 0) = 0", "hut(1, NONE, 0) = 1", "sale(1950, 0, 0, 9) = 1", "since(0, 1950, 1980) = 1900",
            "sale(1950, 1, 1, 9) = 2", "holder(1, 1950, 1980) = -1", "event(1955, 0, 2, 0) = 3",
            "sale(1960, 0, 2, 9) = 4", "holder(0, 1960, 1980) = 0", "sale(1970, 0, 1, 9) = 5",
            "holder(0, 1969, 1980) = 0", "holder(0, 1970, 1980) = 1", "since(0, 1970, 1980) = 1970"));
    }

    private static void rights(Edges edges) {
        edges.holds(11, "goes on by the RIGHTS in force (the latest text; without any to none)", World.and(FAMILY,
            "event(1960, 0, 0, 0) = 6", "holder(0, 1960, 1980) = -1", "holder(2, 1960, 1980) = -1",
            "since(0, 1960, 1980) = -1", "read(0, 'to parent') = 1", "holder(0, 1960, 1980) = 4",
            "read(0, 'to spouse') = 1", "holder(0, 1960, 1980) = 1", "holder(2, 1960, 1980) = 1",
            "read(0, 'to aunt') throws IllegalArgument", "holder(0, 1960, 1980) = 1", "read(0, '') = 0",
            "holder(0, 1960, 1980) = -1"));
        String sentence = "RIGHTS: to WHOM [ if C ]; WHOM: spouse, child, parent, brother (child: ELDEST).";
        String[] texts = {"to spouse", "to child", "to parent", "to brother", "to spouse if 1 > 2; to brother",
            "to spouse if 2 > 1; to brother", "to brother if local; to child"};
        int[] heirs = {1, 3, 4, 5, 5, 1, 5};
        for (int i = 0; i < texts.length; i++) {
            edges.holds(11, sentence, World.and(FAMILY, "event(1960, 0, 0, 0) = 6", "read(0, '" + texts[i] + "')",
                "holder(0, 1960, 1980) = " + heirs[i], "holder(1, 1960, 1980) = -1"));
        }
        faulty(edges, 0, sentence, "", "spouse");
        faulty(edges, 0, sentence, "to ", "if local");
        faulty(edges, 0, sentence, "to child ", "child");
        faulty(edges, 0, sentence, "to child if", "");
    }

    private static void amounts(Edges edges) {
        String sentence = "RENTS, WAITS: add NUMBER [ * FACT ] [ if C ] | less NUMBER [ * FACT ] [ if C ].";
        String[] texts = {"add 7", "add 7 * size", "add 7 if size > 4", "add 7 * size if size > 5", "add 50; less 7",
            "add 50; less 7 * weeks", "less 7", "add 50; less 7 * weeks if weeks < 2", "add 50; less 7 if weeks > 1"};
        int[] rents = {7, 35, 7, 0, 43, 36, 0, 50, 43};
        for (int i = 0; i < texts.length; i++) {
            rent(edges, sentence, texts[i], rents[i]);
        }
        for (int sort = 1; sort < 3; sort++) {
            faulty(edges, sort, sentence, "", "7");
            faulty(edges, sort, sentence, "add ", "year");
            faulty(edges, sort, sentence, "add 7 * ", "7");
            faulty(edges, sort, sentence, "less 7 ", "year");
            faulty(edges, sort, sentence, "less 7 * year ", "* year");
            faulty(edges, sort, sentence, "less 7 if year > 1 ", "* year");
        }
        String[] orders = {"add 1 * age", "less 1 * age", "add 5 if not local", "less 5 if local", "add 5 * age if local"};
        int[] firsts = {1, 0, 1, 1, 0};
        for (int i = 0; i < orders.length; i++) {
            edges.holds(19, sentence, "person(1950, 0, true) = 0", "person(1940, 0, false) = 1", "waits(0, 1970) = 1",
                "waits(1, 1970) = 2", "order(1, 1980, 1980) = 0", "read(2, '" + orders[i] + "') = 1",
                "order(1, 1980, 1980) = " + firsts[i], "order(2, 1980, 1980) = " + (1 - firsts[i]));
        }
    }

    private static void atoms(Edges edges) {
        String sentence = "ATOM: not ATOM | ( C ) | local | SUM < SUM | SUM > SUM.";
        String[] right = {"local", "not not local", "( local )", "not ( not local )", "5 < 6", "6 > 5", "not 6 < 6",
            "not 6 > 6", "( 6 < 6 or local )"};
        String[] wrong = {"not local", "6 < 6", "6 > 6", "7 < 6", "5 > 6", "not ( local )", "( 6 < 6 and local )"};
        for (String one : right) {
            rent(edges, sentence, "add 1 if " + one, 1);
        }
        for (String one : wrong) {
            rent(edges, sentence, "add 1 if " + one, 0);
        }
        faulty(edges, 1, sentence, "add 1 if 6", "");
        faulty(edges, 1, sentence, "add 1 if 5 ", "= 6");
        faulty(edges, 1, sentence, "add 1 if 5 < 6 ", "< 7");
        faulty(edges, 1, sentence, "add 1 if local ", "> 1");
        faulty(edges, 1, sentence, "add 1 if ( 5 ", ") < 6");
        faulty(edges, 1, sentence, "add 1 if not", "");
    }

    private static void sums(Edges edges) {
        String sentence = "SUM: PART { + PART }; PART: NUMBER | FACT.";
        rent(edges, sentence, "add 1 if 2 + 3 < 6", 1);
        rent(edges, sentence, "add 1 if 2 + 3 + 1 < 6", 0);
        rent(edges, sentence, "add 1 if size + 1 > 5", 1);
        rent(edges, sentence, "add 1 if size + weeks > 7", 0);
        rent(edges, sentence, "add 1 if size+weeks+0001>7", 1);
        rent(edges, sentence, "add 1 if 7 < size + weeks + 1", 1);
        faulty(edges, 1, sentence, "add 1 if 2 + ", "< 6");
        faulty(edges, 1, sentence, "add 1 if ", "+ 2 < 6");
        faulty(edges, 1, sentence, "add 1 if 2 + ", "local < 6");
        faulty(edges, 1, sentence, "add 1 if 2 + ", "( 3 ) < 6");
    }

    private static void wrong(Edges edges) {
        String sentence = "The first wrong byte: the begin of the first thing that cannot stand there";
        faulty(edges, 1, sentence, "add ", "x y");
        faulty(edges, 1, sentence, "add 1 ", "x y");
        faulty(edges, 1, sentence, "  ", "parrot");
        faulty(edges, 3, sentence, "allow ", "8; allow 9");
    }

    private static void rents(Edges edges) {
        edges.holds(15, "RENT.", World.of(1, 0, "hut(5, 0, 2) = 0", "rent(0, 1980, 1980) = 0", "read(1, 'add 3') = 1",
            "rent(0, 1980, 1980) = 3", "rent(0, 1900, 1900) = 3", "rent(1, 1980, 1980) throws IndexOutOfBounds"));
        // By numbers: by PLACES the one who can pay more would take the HUT 2, which the other could have paid, too.
        edges.holds(17, "INCOME then: of HUTS by numbers: the RENT, if the HOLDER stays; else the first of those who WAIT",
            "person(1950, 100, true) = 0", "person(1950, 10, true) = 1", "3 times hut(1, NONE, 0) = 2",
            "event(1950, 6, 2, 0) = 1", "waits(0, 1960) = 1", "waits(1, 1970) = 2",
            "read(1, 'add 10; add 20 if place > 0') = 2", "income(1980, 1) = 40", "income(1980, 2) = 60");
    }

    private static void waiters(Edges edges) {
        edges.holds(18, "A WAITER: how many there are.", World.of(3, 0, "waits(2, 1970) = 1", "waits(0, 1970) = 2",
            "waits(0, 1970) throws IllegalArgument", "waits(1, 1970) = 3", "count(4) = 3"));
        edges.holds(20, "FREED of one YEAR more: how many numbers there are.", "freed(0) = 1", "freed(9) = 2",
            "freed(10) throws IllegalArgument", "freed(9) = 3");
        edges.holds(21, ": how long one waits at least, at most, who is k-th in ORDER (from 1 on): k by the greatest "
            + "number, by the least, rounded up;", "freed(2) = 1", "freed(3) = 2", "howLong(1, false) = 1",
            "howLong(3, false) = 1", "howLong(4, false) = 2", "howLong(10, false) = 4", "howLong(1, true) = 1",
            "howLong(2, true) = 1", "howLong(3, true) = 2", "howLong(10, true) = 5");
        edges.holds(21, "How long one waits who is k-th: at least (most false) or at most; NONE.",
            "howLong(1, false) = -1", "howLong(1, true) = -1", "freed(4) = 1", "freed(0) = 2", "howLong(9, false) = 3",
            "howLong(9, true) = -1", "howLong(0, true) throws IllegalArgument", "howLong(11, false) throws IllegalArgument");
    }

    private static void lifts(Edges edges) {
        String[] huts = {"hut(1, NONE, 0) = 0", "hut(2, NONE, 0) = 1", "hut(4, NONE, 0) = 2"};
        edges.holds(24, "go by their PLACES, as told now, from the first on to PILES (1 to 4), each on top of one;",
            World.and(huts, "lift(7, 1, 0, NONE) = 6", "lift(7, 1, 1, NONE) = 0", "event(1980, 6, 2, 0) = 1",
                "lift(7, 1, 0, NONE) = 3", "lift(7, 1, 1, NONE) = 0", "lift(7, 1, 2, NONE) = 2"));
        edges.holds(24, "LIFTS: the least (hut NONE), or the PILE (from 0 on) of a HUT by the first way", World.and(huts,
            "lift(7, 2, 0, NONE) = 2", "lift(7, 2, 0, 0) = 0", "lift(7, 2, 0, 1) = 0", "lift(7, 2, 0, 2) = 1",
            "lift(7, 4, 0, NONE) = 0", "lift(7, 4, 0, 0) = 0", "lift(7, 4, 0, 1) = 1", "lift(7, 4, 0, 2) = 2"));
    }

    private static void crane(Edges edges) {
        edges.holds(26, "DONE (ordered false), or IN ORDER; NONE.", "hut(9, NONE, 0) = 0", "hut(1, NONE, 0) = 1",
            "wind(0, 9)", "crane(3, 0, 1, false) = 1", "crane(3, 0, 1, true) = 2", "crane(3, 0, 2, false) = 1",
            "crane(3, 0, 2, true) = 1", "crane(3, 59, 2, false) = 59", "crane(3, 59, 1, false) = -1",
            "crane(3, 59, 1, true) = -1", "crane(3, 58, 1, true) = 59");
    }

    private static void storms(Edges edges) {
        edges.holds(27, "LINE of a HUT.", World.of(0, 2, "line(1, 0, 0)", "level(1, 1980, false) = 0",
            "level(1, 1980, true) = 0", "line(1, 99, 99)", "level(1, 1980, false) = 99", "level(1, 1980, true) = 99",
            "level(0, 1980, false) = 0", "level(0, 1980, true) = 99", "line(1, 6, 5) throws IllegalArgument",
            "line(1, -1, 5) throws IllegalArgument", "line(1, 5, 100) throws IllegalArgument"));
        edges.holds(28, ": of a YEAR, which HUTS were moved to the road (bits).", World.of(0, 2, "storm(1900, 0) = 0",
            "storm(2099, 3) = 1", "storm(1980, 2) = 2", "storm(1899, 0) throws IndexOutOfBounds",
            "storm(2100, 0) throws IndexOutOfBounds", "storm(1980, 4) throws IllegalArgument", "count(5) = 3"));
        String sentence = "SEA of a STORM: the least (most false) or the greatest, as known; NONE.";
        edges.holds(29, sentence, World.of(0, 1, "line(0, 10, 20)", "storm(1980, 1) = 0", "storm(1980, 0) = 1",
            "sea(0, 1980, false) = 11", "sea(0, 1980, true) = 100", "sea(1, 1980, false) = 0", "sea(1, 1980, true) = 20",
            "sea(0, 1979, false) = 0", "sea(1, 1979, true) = 100"));
        // Of two HUTS each was moved without the other: no rows; but nothing of it was known in 1979.
        edges.holds(29, sentence, World.of(0, 2, "storm(1980, 1) = 0", "storm(1980, 2) = 1", "sea(0, 1980, false) = -1",
            "sea(0, 1980, true) = -1", "sea(1, 1980, false) = -1", "sea(0, 1979, true) = 100"));
    }

    private static void road(Edges edges) {
        String[] huts = World.of(0, 2, "lost(0, 1, 3)", "lost(1, 1, 5)");
        String[] planks = {"plank(8, 0, 9) = 0", "plank(32, 0, 9) = 0", "plank(40, 0, 9) = 0", "plank(255, 0, 0) = 0",
            "plank(7, 0, 9) = 0"};
        int[] whose = {1, 2, 3, 1, 0};
        for (int i = 0; i < planks.length; i++) {
            edges.holds(33, ": of some COLOURS (bits),", World.and(huts, planks[i],
                "rows() = " + Integer.bitCount(whose[i]), "whose(0) = " + whose[i]));
        }
        edges.holds(35, "WHOSE, as bits.", World.and(huts, "plank(40, 0, 9) = 0", "plank(40, 0, 9) = 1", "rows() = 2",
            "whose(0) = 3", "whose(1) = 3", "whose(2) throws IndexOutOfBounds", "plank(32, 9, 9) = 2", "rows() = 0",
            "whose(0) = 0"));
    }

    private static void photographs(Edges edges) {
        edges.holds(36, ": of a HUT in a YEAR: a COLOUR.", World.of(0, 1, "photo(0, 1900, 0) = 1",
            "photo(0, 2099, 7) = 2", "photo(1, 1980, 0) throws IndexOutOfBounds",
            "photo(0, 1899, 0) throws IndexOutOfBounds", "photo(0, 2100, 0) throws IndexOutOfBounds",
            "photo(0, 1980, 8) throws IllegalArgument", "photo(0, 1980, -1) throws IllegalArgument", "painted(0) = 1"));
        edges.holds(36, "A PHOTOGRAPH: how many there are.", World.of(0, 2, "photo(1, 1980, 0) = 1",
            "photo(0, 1970, 0) = 2", "photo(1, 1980, 0) = 3", "count(7) = 3"));
        edges.holds(38, "BREACHES of a HUT.", World.of(0, 2, "photo(0, 1969, 1) = 1", "photo(0, 1970, 1) = 2",
            "photo(0, 1960, 2) = 3", "photo(1, 1970, 1) = 4", "breaches(0) = 0",
            "read(3, 'allow 1 if year < 1970') = 1", "breaches(0) = 2", "breaches(1) = 1",
            "breaches(2) throws IndexOutOfBounds"));
        edges.holds(39, "PAINTED.", World.of(0, 2, "painted(0) = 0", "photo(0, 1970, 1) = 1", "painted(0) = 0",
            "photo(0, 1960, 2) = 2", "painted(0) = 1", "photo(0, 1965, 1) = 3", "painted(0) = 1",
            "photo(0, 1970, 2) = 4", "painted(0) = 2", "painted(1) = 0", "painted(2) throws IndexOutOfBounds"));
    }

    private static void thieves(Edges edges) {
        edges.holds(40, "A NIGHT of THIEVES: how many there are.", "thief(9) = 1", "thief(9) = 2",
            "thief(366) throws IllegalArgument", "thief(0) = 3");
        edges.holds(41, "PERIOD (next false), or NEXT; NONE.", "thieves(false) = -1", "thieves(true) = -1",
            "thief(3) = 1", "thief(10) = 2", "thieves(false) = 7", "thieves(true) = 17");
    }

    private static void image(Edges edges) {
        edges.holds(42, "THE IMAGE is kept.", "back() = false", "person(1950, 0, true) = 0", "image()",
            "person(1950, 0, true) = 1", "back() = true", "count(0) = 1", "image()", "person(1950, 0, true) = 1",
            "person(1950, 0, true) = 2", "back() = true", "count(0) = 1", "back() = true", "count(0) = 1");
    }

    /** RENT of a HUT of SIZE 5 that one who is LOCAL holds, and that is let for 2 WEEKS. */
    private static void rent(Edges edges, String sentence, String text, int rent) {
        edges.holds(15, sentence, World.of(1, 0, "hut(5, 0, 2) = 0", "read(1, '" + text + "')",
            "rent(0, 1980, 1980) = " + rent));
    }

    private static void faulty(Edges edges, int sort, String sentence, String before, String behind) {
        edges.holds(5, sentence, "read(" + sort + ", '" + before + behind + "') throws IllegalArgument",
            "fault() = " + before.length());
    }
}
