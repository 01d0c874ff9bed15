/** Promises 4 and 5: what a text may be, and where one is wrong first. */
final class TextEdges {
    private static final String DEEP = "( and not within one another at most 6 deep.";
    private static final String WORDS = "Words are as long as a to z go on";
    private static final String BLANKS = "between all there may be blanks (32), also ahead and behind.";
    private static final String EMPTY = "A text that is empty, or blanks alone, has no LINE.";
    private static final String WRONG = "the begin of the first thing that cannot stand there";
    private static final String END = "or the text's length, if more must come.";
    private static final String NUMBER = "NUMBER: 1 to 4 digits.";
    private static final String COLOUR = "PAINT: allow COLOUR [ if C ]; COLOUR: 0 to 7.";
    private static final String LINES = "TEXTS: LINE { ; LINE }, at most 10.";
    private static final String ELEVENTH = "of an 11th LINE its first word";
    private static final String[] FIRST = {"to child", "add 5", "less 5", "allow 5"};
    private static final String[] FACTS = {"held", "age", "children", "year", "size", "place", "weeks", "waited"};
    private static final String[] FACTS_OF = {"held age children year size", "size place year weeks held",
        "waited age children year", "size place year"};

    private final Edges edges;

    private TextEdges(Edges edges) {
        this.edges = edges;
    }

    static void tell(Edges edges) {
        TextEdges text = new TextEdges(edges);
        text.lines();
        text.numbers();
        text.colours();
        text.deep();
        text.deepValues();
        text.words();
        text.blanks();
        text.empty();
        text.facts();
        text.starts();
        text.conditions();
        text.ends();
        text.longest();
    }

    private void right(int sort, String sentence, String text, int lines) {
        edges.holds(4, sentence, "read(" + sort + ", '" + text + "') = " + lines, "fault() = -1");
    }

    private void wrong(int sort, String sentence, String text, int at) {
        edges.holds(5, sentence, "read(" + sort + ", '" + text + "') throws IllegalArgument", "fault() = " + at);
    }

    /** Wrong from the first sign of a later part on. */
    private void wrongFrom(int sort, String sentence, String before, String behind) {
        wrong(sort, sentence, before + behind, before.length());
    }

    private void lines() {
        for (int sort = 0; sort < 4; sort++) {
            String one = FIRST[sort];
            String nine = one + (";" + one).repeat(8);
            right(sort, LINES, nine, 9);
            right(sort, LINES, nine + ";" + one, 10);
            right(sort, LINES, nine + " ; " + one + "  ", 10);
            wrongFrom(sort, ELEVENTH, nine + ";" + one + ";", one);
            wrongFrom(sort, ELEVENTH, nine + ";" + one + " ;  ", one);
            wrongFrom(sort, ELEVENTH, nine + ";" + one + ";", "parrot");
            wrongFrom(sort, ELEVENTH, nine + ";" + one + ";", one + ";" + one);
            wrongFrom(sort, END, nine + ";" + one + ";", "");
            wrongFrom(sort, END, nine + ";" + one + ";  ", "");
            // What is wrong ahead of the 11th LINE comes first.
            wrongFrom(sort, WRONG, nine + ";" + one + " ", "5;" + one);
            wrongFrom(sort, WRONG, nine + ";", ";" + one);
        }
        edges.holds(4, LINES, World.of(0, 1, "read(1, 'add 1" + ";add 1".repeat(9) + "') = 10",
            "rent(0, 1980, 1980) = 10", "read(1, 'add 2" + ";add 2".repeat(10) + "') throws IllegalArgument",
            "rent(0, 1980, 1980) = 10"));
        edges.holds(4, LINES, World.of(0, 1, "read(3, 'allow 0" + ";allow 0".repeat(8) + ";allow 7') = 10",
            "allowed(0, 1980) = 129"));
    }

    private void numbers() {
        for (String number : new String[] {"0", "9", "00", "99", "000", "0000", "0009", "9999"}) {
            right(1, NUMBER, "add " + number, 1);
            right(2, NUMBER, "less " + number + "*year if " + number + "<" + number + "+" + number, 1);
        }
        String sentence = "(a NUMBER of more digits, or out of its bounds;";
        for (String number : new String[] {"00000", "00001", "10000", "99999", "4294967297", "18446744073709551617"}) {
            wrongFrom(1, sentence, "add ", number);
            wrongFrom(2, sentence, "less  ", number + " * year");
            wrongFrom(3, sentence, "allow ", number);
            for (int sort = 0; sort < 4; sort++) {
                wrongFrom(sort, sentence, FIRST[sort] + " if ", number + "<1");
                wrongFrom(sort, sentence, FIRST[sort] + " if 1<", number);
                wrongFrom(sort, sentence, FIRST[sort] + " if 1>1+", number + "+1");
            }
        }
        // What they come to: none is cut, or read by another base.
        edges.holds(4, NUMBER, World.of(0, 1, "read(1, 'add 9999') = 1", "rent(0, 1980, 1980) = 9999",
            "read(1, 'add 0010') = 1", "rent(0, 1980, 1980) = 10", "read(1, 'add 0') = 1",
            "rent(0, 1980, 1980) = 0", "read(1, 'add 1 if 9999 > 9998 and 9998 < 9999') = 1",
            "rent(0, 1980, 1980) = 1", "read(1, 'add 1 if 9999 > 9999') = 1", "rent(0, 1980, 1980) = 0"));
    }

    private void colours() {
        for (int colour = 0; colour <= 7; colour++) {
            right(3, COLOUR, "allow " + colour, 1);
            edges.holds(4, COLOUR, World.of(0, 1, "read(3, 'allow " + colour + "') = 1",
                "allowed(0, 1980) = " + (1 << colour)));
        }
        right(3, COLOUR, "allow 0007", 1);
        String sentence = "(a NUMBER of more digits, or out of its bounds;";
        for (String colour : new String[] {"8", "08", "10", "9999", "0008", "32", "256", "00007"}) {
            wrongFrom(3, sentence, "allow ", colour);
            wrongFrom(3, sentence, "allow 7; allow ", colour + " if 1<2");
        }
        // 8 is a NUMBER all the same where no COLOUR must stand.
        right(3, COLOUR, "allow 7 if 8 < 9999", 1);
    }

    private void deep() {
        String sentence = "the ( or not that is a 7th one deep;";
        for (int sort = 0; sort < 4; sort++) {
            String before = FIRST[sort] + " if ";
            right(sort, DEEP, before + "((((((1<2))))))", 1);
            right(sort, DEEP, before + "not not not not not not 1<2", 1);
            right(sort, DEEP, before + "(not(not(not 1<2)))", 1);
            wrongFrom(sort, sentence, before + "((((((", "(1<2)))))))");
            wrongFrom(sort, sentence, before + "not not not not not not ", "not 1<2");
            wrongFrom(sort, sentence, before + "(not(not(not ", "(1<2))))");
            wrongFrom(sort, sentence, before + "not(not(not(", "not 1<2)))");
            wrongFrom(sort, sentence, before + "((((((1<2 and ", "(1<2)))))))");
            wrongFrom(sort, sentence, before + "((((((1<2 or ", "not 1<2))))))");
            // Those beside one another do not add up.
            right(sort, DEEP, before + "((((((1<2)))))) and not not not not not not 1<2 or ((((((1<2))))))", 1);
            right(sort, DEEP, before + "(((((not 1<2 and not 1<2 or (1<2) and (1<2)))))) and (1<2)", 1);
            wrongFrom(sort, sentence, before + "(1<2) and not 1<2 or ((((((", "(1<2)))))))");
            right(sort, DEEP, before + "((((((1<2))))));" + before + "((((((1<2))))))", 2);
        }
        right(0, DEEP, "to child if not not not not not not local", 1);
        wrongFrom(0, sentence, "to child if not not not not not not ", "not local");
        // A 7th ( that could not stand there anyway, and one that is not reached.
        wrongFrom(0, WRONG, "to child if ((((((local ", "(local)))))))");
        wrongFrom(0, WRONG, "to child if ((((((", ")(local");
    }

    private void deepValues() {
        holdsFor("not not not not not not 1<2", true);
        holdsFor("not not not not not 1<2", false);
        holdsFor("((((((1<2))))))", true);
        holdsFor("not (not (not 1<2))", false);
        // At each depth something waits to be joined: what stands innermost decides.
        String open = "1>2 or 1<2 and (";
        holdsFor(open.repeat(6) + "1+1<1+1+1" + ")".repeat(6), true);
        holdsFor(open.repeat(6) + "1+1>1+1+1" + ")".repeat(6), false);
        holdsFor(open.repeat(6) + "1>2 or 1<2 and 1+1+1>1+1" + ")".repeat(6), true);
        holdsFor("1<2 or 1>2 and (1>2)", true);
        holdsFor("(1<2 or 1>2) and (1>2)", false);
        holdsFor("1<1", false);
        holdsFor("1>1", false);
        holdsFor("9999" + "+9999".repeat(35) + "<9999" + "+9999".repeat(35) + "+1", true);
    }

    private void holdsFor(String condition, boolean holds) {
        edges.holds(4, "C: ALL { or ALL }; ALL: ATOM { and ATOM }; ATOM: not ATOM | ( C )",
            World.of(0, 1, "read(1, 'add 7 if " + condition + "') = 1",
                "rent(0, 1980, 1980) = " + (holds ? 7 : 0)));
    }

    private void words() {
        right(0, WORDS, "to child if(local)or(local)and not(local)", 1);
        right(1, WORDS, "add5*size if1<2and 3<4or not 5<6", 1);
        right(3, WORDS, "allow5if 1<2;allow6", 2);
        wrong(0, WORDS, "tochild", 0);
        wrong(0, WORDS, "t", 0);
        wrong(0, WORDS, "too child", 0);
        wrongFrom(0, WORDS, "to ", "childif local");
        wrongFrom(0, WORDS, "to ", "chil");
        wrongFrom(0, WORDS, "to ", "childr");
        wrongFrom(0, WORDS, "to ", "children");
        wrongFrom(0, WORDS, "to ", "spous e");
        wrongFrom(0, WORDS, "to child ", "iff local");
        wrongFrom(0, WORDS, "to child if ", "locals");
        wrongFrom(0, WORDS, "to child if ", "loca");
        wrongFrom(0, WORDS, "to child if ", "notlocal");
        wrongFrom(0, WORDS, "to child if ", "child < 5");
        wrongFrom(0, WORDS, "to child if 1<2 ", "andlocal");
        wrongFrom(0, WORDS, "to child if 1<2 ", "orlocal");
        wrong(1, WORDS, "ad 5", 0);
        wrong(1, WORDS, "adds 5", 0);
        wrong(1, WORDS, "les 5", 0);
        wrong(1, WORDS, "lesss 5", 0);
        wrong(3, WORDS, "allo 5", 0);
        wrong(3, WORDS, "allows 5", 0);
        // The bytes ahead of a and behind z are of no word; nor are capitals, or what is above 127.
        char[] signs = {'`', '{', 'A', 'Z', '@', '[', '_', '\u00e0', '\u00fa', '\u00ff', '\u0001', '\u007f'};
        for (char sign : signs) {
            wrong(0, WORDS, sign + "to child", 0);
            wrongFrom(0, WORDS, "to", sign + " child");
            wrongFrom(0, WORDS, "to child", "" + sign);
        }
        String sentence = "a word that is none;";
        wrong(0, sentence, "zzz", 0);
        wrongFrom(0, sentence, "to ", "z");
        wrongFrom(1, sentence, "add 5 * ", "z");
        wrongFrom(2, sentence, "add 5 if ", "z");
        wrongFrom(3, sentence, "allow 5 ", "z");
        wrongFrom(0, sentence, "to ", "a".repeat(397));
    }

    private void blanks() {
        right(0, BLANKS, " to child", 1);
        right(0, BLANKS, "to child ", 1);
        right(0, BLANKS, "   to   child   if   not   (   1   +   2   <   3   )   ;   to   child   ", 2);
        right(1, BLANKS, "  add  5  *  size  if  1  <  2  ;  less  5  ", 2);
        right(1, BLANKS, "add5*size;less5;add5if(1+1<2)", 3);
        wrongFrom(1, BLANKS, "add 1 ", "2");
        wrongFrom(1, BLANKS, "", "a dd 5");
        // Blanks are 32 alone.
        for (int sign : new int[] {0, 9, 10, 11, 12, 13, 31, 33, 160}) {
            wrongFrom(0, BLANKS, "to", (char) sign + "child");
            wrongFrom(0, BLANKS, "", (char) sign + "to child");
            wrongFrom(0, BLANKS, "to child", "" + (char) sign);
            wrongFrom(0, BLANKS, "  ", "" + (char) sign);
        }
    }

    private void empty() {
        for (int sort = 0; sort < 4; sort++) {
            right(sort, EMPTY, "", 0);
            right(sort, EMPTY, " ", 0);
            right(sort, EMPTY, " ".repeat(20), 0);
            right(sort, EMPTY, " ".repeat(400), 0);
            wrongFrom(sort, WRONG, "", ";");
            wrongFrom(sort, WRONG, "   ", ";");
            wrongFrom(sort, WRONG, FIRST[sort] + ";", ";" + FIRST[sort]);
            wrongFrom(sort, WRONG, "", ";" + FIRST[sort]);
        }
        // It is in force in place of the one before, though it has no LINE.
        edges.holds(4, EMPTY, World.of(0, 1, "read(1, 'add 5') = 1", "read(1, '  ') = 0", "rent(0, 1980, 1980) = 0",
            "read(3, 'allow 5') = 1", "text(3) = 0", "allowed(0, 1980) = 0"));
        edges.holds(4, EMPTY, World.of(2, 0, "hut(1, 0, 0) = 0", "event(1950, 1, 0, 1)", "event(1960, 0, 0, 0)",
            "read(0, 'to spouse') = 1", "holder(0, 1960, 1980) = 1", "text(0) = 0", "holder(0, 1960, 1980) = -1"));
        edges.holds(4, EMPTY, World.of(2, 0, "waits(0, 1960)", "waits(1, 1970)", "read(2, 'less 1*waited') = 1",
            "order(1, 1980, 1980) = 1", "text(2) = 0", "order(1, 1980, 1980) = 0"));
    }

    /** Each FACT in each sort, in both SUMS, behind + and behind *. */
    private void facts() {
        String sentence = "FACTS of RIGHTS: held, age, children, year, size; of RENTS: size, place, year, weeks, held; "
            + "of WAITS: waited, age, children, year; of PAINT: size, place, year.";
        for (int sort = 0; sort < 4; sort++) {
            for (String fact : FACTS) {
                boolean has = (" " + FACTS_OF[sort] + " ").contains(" " + fact + " ");
                fact(sort, sentence, has, FIRST[sort] + " if ", fact + " < 1");
                fact(sort, sentence, has, FIRST[sort] + " if 1 > ", fact);
                fact(sort, sentence, has, FIRST[sort] + " if 1 + ", fact + " < 1");
                if (sort == 1 || sort == 2) {
                    fact(sort, sentence, has, "add 5 * ", fact);
                    fact(sort, sentence, has, "less 5 *", fact + " if 1<2");
                } else {
                    wrongFrom(sort, WRONG, FIRST[sort] + " ", "* " + fact);
                }
            }
            fact(sort, "not in PAINT.", sort != 3, FIRST[sort] + " if ", "local");
            fact(sort, "not in PAINT.", sort != 3, FIRST[sort] + " if not ", "local");
            fact(sort, "not in PAINT.", sort != 3, FIRST[sort] + " if 1<2 and ", "local");
            wrongFrom(sort, WRONG, FIRST[sort] + " if 1 < ", "local");
            wrongFrom(sort, WRONG, FIRST[sort] + " if 1 + ", "local < 2");
        }
        wrongFrom(1, WRONG, "add 5 * ", "local");
        wrongFrom(2, WRONG, "add 5 * ", "local");
    }

    private void fact(int sort, String sentence, boolean has, String before, String behind) {
        if (has) {
            right(sort, sentence, before + behind, 1);
        } else {
            wrongFrom(sort, sentence, before, behind);
        }
    }

    private void starts() {
        String[] starts = {"to", "add", "less", "allow"};
        for (int sort = 0; sort < 4; sort++) {
            for (String start : starts) {
                if (!FIRST[sort].startsWith(start) && !(sort == 1 && start.equals("less"))
                        && !(sort == 2 && start.equals("add"))) {
                    wrongFrom(sort, WRONG, "", start);
                    wrongFrom(sort, WRONG, FIRST[sort] + "; ", start + " 5");
                }
            }
            for (String thing : new String[] {"if", "5", "(", ")", "*", "+", "<", ">", "not", "local", "year"}) {
                wrongFrom(sort, WRONG, "", thing);
            }
            for (String thing : new String[] {"5", "(", ")", "+", "<", ">", "not", "local", "year", "and", "or",
                "to", "spouse", "=", ",", "-", "/", ":"}) {
                wrongFrom(sort, WRONG, FIRST[sort] + " ", thing);
            }
        }
        for (String whom : new String[] {"spouse", "child", "parent", "brother"}) {
            right(0, "WHOM: spouse, child, parent, brother", "to " + whom, 1);
        }
        for (String thing : new String[] {"to", "if", "5", ";", "(", "local", "year", "held", "children", "sister"}) {
            wrongFrom(0, WRONG, "to ", thing);
            wrongFrom(0, WRONG, "to child; to ", thing);
        }
        for (String thing : new String[] {"if", ";", "(", "-5", "+5", "*", "size", "year", "local", "add"}) {
            wrongFrom(1, WRONG, "add ", thing);
            wrongFrom(2, WRONG, "less ", thing);
            wrongFrom(3, WRONG, "allow ", thing);
        }
        for (String thing : new String[] {"if", ";", "(", "5", "*", "local", "add"}) {
            wrongFrom(1, WRONG, "add 5 * ", thing);
            wrongFrom(2, WRONG, "less 5 * ", thing);
        }
        wrongFrom(1, WRONG, "add 5*size", "*size");
        wrongFrom(1, WRONG, "add 5*size", "+5");
        wrongFrom(1, WRONG, "add 5 * size ", "5");
    }

    private void conditions() {
        for (int sort = 0; sort < 4; sort++) {
            String before = FIRST[sort] + " if ";
            for (String thing : new String[] {"if", ";", ")", "<", ">", "+", "*", "and", "or", "to", "="}) {
                wrongFrom(sort, WRONG, before, thing);
                wrongFrom(sort, WRONG, before + "(", thing);
                wrongFrom(sort, WRONG, before + "not ", thing);
                wrongFrom(sort, WRONG, before + "1<2 and ", thing);
                wrongFrom(sort, WRONG, before + "1<2 or ", thing);
                wrongFrom(sort, WRONG, before + "1<", thing);
                wrongFrom(sort, WRONG, before + "1+", thing);
                wrongFrom(sort, WRONG, before + "1>1+", thing);
            }
            for (String thing : new String[] {"5", "if", "not", "(", "<", ">", "*", "year", "local", "="}) {
                wrongFrom(sort, WRONG, before + "1<2 ", thing);
                wrongFrom(sort, WRONG, before + "(1<2) ", thing);
                wrongFrom(sort, WRONG, before + "(1<2 ", thing);
            }
            for (String thing : new String[] {";", ")", "and", "or", "if", "not", "(", "*", "5", "year", "="}) {
                wrongFrom(sort, WRONG, before + "1 ", thing);
                wrongFrom(sort, WRONG, before + "year ", thing);
                wrongFrom(sort, WRONG, before + "1+year ", thing);
            }
            wrongFrom(sort, WRONG, before + "1<", "(2)");
            wrongFrom(sort, WRONG, before + "(1", ")<2");
            wrongFrom(sort, WRONG, before + "1<2", ")");
            wrongFrom(sort, WRONG, before + "(1<2)", ")");
            wrongFrom(sort, WRONG, before + "(1<2", ";" + FIRST[sort]);
            wrongFrom(sort, WRONG, before + "1<", "not 2");
        }
        for (String thing : new String[] {"<5", ">5", "+5<6", "local", "5", "(", "not", "if", "*"}) {
            wrongFrom(0, WRONG, "to child if local ", thing);
        }
    }

    private void ends() {
        String[] cut = {"to", "to child;", "to child if", "to child if not", "to child if (", "to child if 1",
            "to child if 1<", "to child if 1+", "to child if 1<2+", "to child if (1<2", "to child if local and",
            "to child if local or", "to child if (local", "to child if not (local", "to child; to"};
        for (String text : cut) {
            cutOff(0, text);
        }
        String[] amounts = {"add", "less", "add 5*", "add 5 if", "add 5;", "add 5 if 1", "less 5*size if"};
        for (String text : amounts) {
            cutOff(1, text);
        }
        for (String text : new String[] {"add", "less", "add 5*", "add 5 if", "add 5;"}) {
            cutOff(2, text);
        }
        for (String text : new String[] {"allow", "allow 5 if", "allow 5;", "allow 5 if year"}) {
            cutOff(3, text);
        }
    }

    private void cutOff(int sort, String text) {
        wrongFrom(sort, END, text, "");
        wrongFrom(sort, END, text + " ", "");
        wrongFrom(sort, END, text + "     ", "");
    }

    private void longest() {
        // Texts of 400 bytes: what is read of them is all.
        String sums = "add 7 if 1" + "+1".repeat(193) + "<19";
        right(1, NUMBER, sums + "5", 1);
        edges.holds(4, "SUM: PART { + PART }", World.of(0, 1, "read(1, '" + sums + "5') = 1",
            "rent(0, 1980, 1980) = 7", "read(1, '" + sums + "4') = 1", "rent(0, 1980, 1980) = 0",
            "read(1, '" + sums.replace("<", ">") + "3') = 1", "rent(0, 1980, 1980) = 7",
            "read(1, '" + sums.replace("<", ">") + "4') = 1", "rent(0, 1980, 1980) = 0"));
        String ors = "add 7 if 1>2" + "or 1>2".repeat(64);
        edges.holds(4, "C: ALL { or ALL }", World.of(0, 1, "read(1, '" + ors + "') = 1", "rent(0, 1980, 1980) = 0",
            "read(1, '" + ors.substring(0, ors.length() - 3) + "1<2') = 1", "rent(0, 1980, 1980) = 7"));
        wrongFrom(1, END, "add 1 if 1" + "+1".repeat(194) + "+", "");
    }
}
