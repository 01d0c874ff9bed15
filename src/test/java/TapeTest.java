/** Promises 1 to 5: a new object, feed, end, text, fault. */
public final class TapeTest {
    private static final int[] NO_SORTS = {-1, 4, Integer.MIN_VALUE, Integer.MAX_VALUE};

    public static void main(String[] args) {
        newObject();
        feedAndEnd();
        lines();
        blanksAndWords();
        wrongRights();
        wrongAmounts();
        wrongPaint();
        wrongConditions();
        deep();
        manyLines();
        faultAndTape();
        Check.close();
    }

    private static void newObject() {
        HutRow x = new HutRow();
        int[] counts = {0, 0, 0, 1980, 0, 0, 0, 0, 0, 0};
        for (int i = 0; i < counts.length; i++) {
            int what = i;
            Check.due("a new object: count(" + i + ")", counts[i], () -> x.count(what));
        }
        Check.due("a new object: fault()", -1, x::fault);
        Check.due("a new object: rows()", 1, x::rows);
        Check.due("a new object: thieves", -1, () -> x.thieves(false));
        Check.due("a new object: back()", false, x::back);
        Check.due("a new object: leaves", 0, () -> x.leaves(1980, 9));
        Check.due("a new object: income", 0, () -> x.income(1980, 9));
        Check.due("a new object: lift", 0, () -> x.lift(1023, 1, 0, -1));
        Check.due("a new object: crane", 7, () -> x.crane(1023, 7, 1, true));
        Check.due("a new object: flood", 0, () -> x.flood(100, 1980, true));
        Check.due("a new object: order", -1, () -> x.order(1, 1980, 1980));
        Check.due("a new object: dodged", 0, () -> x.dodged(99));
    }

    private static void feedAndEnd() {
        HutRow x = new HutRow();
        Check.due("end(1) of nothing", false, () -> x.end(1));
        Check.due("end(0) of nothing", true, () -> x.end(0));
        for (int i = 1; i <= 20; i++) {
            Check.due("feed", i * 20, () -> x.feed(0x20202020, 0x20202020, 0x20202020, 0x20202020, 0x20202020));
        }
        Check.due("feed beyond 400", -1, () -> x.feed(1, 2, 3, 4, 5));
        Check.due("end(401)", false, () -> x.end(401));
        Check.due("end(-1)", false, () -> x.end(-1));
        Check.due("end(least)", false, () -> x.end(Integer.MIN_VALUE));
        Check.due("end(400)", true, () -> x.end(400));
        Check.due("end(381)", true, () -> x.end(381));
        Check.due("feed would have 401", -1, () -> x.feed(0, 0, 0, 0, 0));
        Check.due("end(382) of 381", false, () -> x.end(382));
        Check.due("end(380)", true, () -> x.end(380));
        Check.due("feed 20 more", 400, () -> x.feed(0x20202020, 0x20202020, 0x20202020, 0x20202020, 0x20202020));
        Check.due("blanks alone", 0, () -> x.text(0));
        // 'to spouse;to parent ': of each number the highest byte first.
        Check.due("feed", 20, () -> x.feed(0x746f2073, 0x706f7573, 0x653b746f, 0x20706172, 0x656e7420));
        Check.due("to spouse;to parent", 2, () -> x.text(0));
        x.feed(0x746f2073, 0x706f7573, 0x653b746f, 0x20706172, 0x656e7420);
        x.end(9);
        Check.due("to spouse", 1, () -> x.text(0));
        x.feed(0xff746f20, 0, 0, 0, 0);
        Check.illegal("a byte above 127", () -> x.text(0));
        Check.due("a byte above 127", 0, x::fault);
    }

    private static void lines() {
        right(0, "", 0);
        right(0, "to spouse", 1);
        right(0, "to child if held>5 and age<90 or children>0", 1);
        right(0, "to brother if year > 1950 + size ; to parent if local", 2);
        right(1, "add 9999;less 0;add 0001*size", 3);
        right(1, "add 5 * place if year > 1 ; less 2 * weeks if local; add 1*held; add 1*year", 4);
        right(2, "add 1*waited;add 2*age;less 3*children;add 4*year if waited+age+children+year>0", 4);
        right(3, "allow 0;allow 7 if size<place+year;allow 0007", 3);
    }

    private static void blanksAndWords() {
        right(0, "   to   spouse   if   not   (   local   )   ;   to   child   ", 2);
        right(0, "to spouse if(not(local)or 1<2)", 1);
        right(1, "add5*size", 1);
        right(1, "add 5if 1<2", 1);
        wrong(1, "add 5 i f 1<2", 6);
        wrong(0, "tospouse", 0);
        wrong(0, "to spouseif local", 3);
        wrong(0, "to children", 3);
        wrong(0, "to chil d", 3);
        wrong(0, "to spouse if notlocal", 13);
        wrong(0, "To spouse", 0);
        wrong(0, "to\tspouse", 2);
        wrong(0, "\u0000", 0);
        wrong(1, "add 1 2", 6);
        wrong(1, "add 1 2 3", 6);
    }

    private static void wrongRights() {
        wrong(0, "to", 2);
        wrong(0, "to   ", 5);
        wrong(0, "spouse", 0);
        wrong(0, "to to", 3);
        wrong(0, "to year", 3);
        wrong(0, "to spouse child", 10);
        wrong(0, "to spouse;", 10);
        wrong(0, "to spouse; ; to child", 11);
        wrong(0, ";", 0);
        wrong(0, ";to spouse", 0);
        wrong(0, "to spouse if", 12);
        wrong(0, "to spouse if ;", 13);
        wrong(0, "to spouse or", 10);
        wrong(0, "to if local", 3);
        wrong(0, "if local", 0);
        wrong(0, "to ; to spouse", 3);
        wrong(0, "add 5", 0);
        wrong(0, "allow 5", 0);
        wrong(0, "to spouse if place < 5", 13);
        wrong(0, "to spouse if weeks < 5", 13);
        wrong(0, "to spouse if waited < 5", 13);
        wrong(0, "to spouse if held + age + children + year + size + place < 5", 51);
    }

    private static void wrongAmounts() {
        wrong(1, "add", 3);
        wrong(1, "add size", 4);
        wrong(1, "add if local", 4);
        wrong(1, "add ; add 5", 4);
        wrong(1, "add 5 * if local", 8);
        wrong(1, "add 5 * ; add 5", 8);
        wrong(1, "add 12345", 4);
        wrong(1, "add 00001", 4);
        wrong(1, "add 99999999999999999999", 4);
        wrong(1, "add 5*", 6);
        wrong(1, "add 5*5", 6);
        wrong(1, "add 5*local", 6);
        wrong(1, "add 5*age", 6);
        wrong(1, "add 5*waited", 6);
        wrong(1, "add 5 + 5", 6);
        wrong(1, "add 5*size*size", 10);
        wrong(1, "add -5", 4);
        wrong(1, "add 5 if children < 5", 9);
        wrong(1, "to spouse", 0);
        wrong(2, "less 5*size", 7);
        wrong(2, "less 5*held", 7);
        wrong(2, "less 5*place", 7);
        wrong(2, "add 5 if weeks < 5", 9);
        right(2, "add 5 if local", 1);
    }

    private static void wrongPaint() {
        wrong(3, "allow", 5);
        wrong(3, "allow 8", 6);
        wrong(3, "allow 8 if 1<2", 6);
        wrong(3, "allow if 1<2", 6);
        wrong(3, "allow ; allow 1", 6);
        wrong(3, "allow 00000", 6);
        wrong(3, "allow size", 6);
        wrong(3, "allow 1*size", 7);
        wrong(3, "allow 1 if local", 11);
        wrong(3, "allow 1 if held<1", 11);
        wrong(3, "allow 1 if age<1", 11);
        wrong(3, "allow 1 if weeks<1", 11);
        wrong(3, "allow 1 if 1<2 and local", 19);
        wrong(3, "add 1", 0);
    }

    private static void wrongConditions() {
        wrong(0, "to child if 1", 13);
        wrong(0, "to child if 1<", 14);
        wrong(0, "to child if <1", 12);
        wrong(0, "to child if 1<2<3", 15);
        wrong(0, "to child if 1=2", 13);
        wrong(0, "to child if 1+<2", 14);
        wrong(0, "to child if 1+", 14);
        wrong(0, "to child if 12345<2", 12);
        wrong(0, "to child if 1<2 and", 19);
        wrong(0, "to child if 1<2 or or", 19);
        wrong(0, "to child if (1<2", 16);
        wrong(0, "to child if 1<2)", 15);
        wrong(0, "to child if (1)<2", 14);
        wrong(0, "to child if ()", 13);
        wrong(0, "to child if not", 15);
        wrong(0, "to child if local<1", 17);
        wrong(0, "to child if local+1<1", 17);
        wrong(0, "to child if 1<local", 14);
        wrong(0, "to child if local local", 18);
        wrong(0, "to child if local if local", 18);
    }

    private static void deep() {
        right(0, "to child if not not not not not not local", 1);
        wrong(0, "to child if not not not not not not not local", 36);
        right(0, "to child if ((((((local))))))", 1);
        wrong(0, "to child if (((((((local)))))))", 18);
        right(0, "to child if not(not(not(local)))", 1);
        wrong(0, "to child if not(not(not(not local)))", 24);
        wrong(0, "to child if not(not(not((local))))", 24);
        right(0, "to child if ((((((local)))))) and ((((((local)))))) or not not not not not not local", 1);
    }

    private static void manyLines() {
        String ten = "to child" + ";to child".repeat(9);
        right(0, ten, 10);
        wrong(0, ten + ";", 90);
        wrong(0, ten + ";  ", 92);
        wrong(0, ten + "; to child", 91);
        wrong(0, ten + "; nonsense", 91);
        wrong(0, ten + " 5;to child", 90);
    }

    private static void faultAndTape() {
        HutRow x = new HutRow();
        for (int sort : NO_SORTS) {
            Check.tape(x, "to parrot");
            Check.illegal("text(" + sort + ")", () -> x.text(sort));
            Check.due("fault ahead of any text", -1, x::fault);
            Check.due("the tape is used up", false, () -> x.end(1));
        }
        Check.tape(x, "to parrot");
        Check.illegal("a wrong text", () -> x.text(0));
        Check.due("the tape is used up", false, () -> x.end(1));
        Check.due("fault", 3, x::fault);
        Check.illegal("no such sort", () -> x.text(4));
        Check.due("no text was read: fault stays", 3, x::fault);
        x.person(1950, 0, true);
        x.hut(3, 0, 0);
        Check.due("add 7", 1, () -> Check.text(x, 1, "add 7"));
        Check.due("a right text: fault", -1, x::fault);
        Check.illegal("a wrong text", () -> Check.text(x, 1, "add 8;add"));
        Check.due("the end of the text", 9, x::fault);
        Check.due("the text before stays in force", 7, () -> x.rent(0, 1980, 1980));
        Check.due("an empty text", 0, () -> x.text(1));
        Check.due("it is in force", 0, () -> x.rent(0, 1980, 1980));
        Check.due("a later text", 2, () -> Check.text(x, 1, "add 5;add 6"));
        Check.due("it is in force in all years", 11, () -> x.rent(0, 1900, 1900));
    }

    private static void right(int sort, String text, int lines) {
        HutRow x = new HutRow();
        Check.due("text '" + text + "'", lines, () -> Check.text(x, sort, text));
        Check.due("fault of '" + text + "'", -1, x::fault);
    }

    private static void wrong(int sort, String text, int at) {
        HutRow x = new HutRow();
        Check.illegal("text '" + text + "'", () -> Check.text(x, sort, text));
        Check.due("fault of '" + text + "'", at, x::fault);
    }
}
