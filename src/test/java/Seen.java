/**
 * What can be seen of an object by its answers, as one text: of two objects that were told the same it is the
 * same. It asks some 250 calls at most; the last of them use the TAPE up.
 */
final class Seen {
    private static final int MOST_CALLS = 512;

    private final HutRow x;
    private final StringBuilder told = new StringBuilder();
    private int calls;

    private Seen(HutRow x, int callsBefore) {
        this.x = x;
        calls = callsBefore;
    }

    /** All of it, and THE IMAGE too as long as the object may still be used for so many calls. */
    static String all(HutRow x, int callsBefore, boolean withFault) {
        Seen seen = new Seen(x, callsBefore);
        seen.fault(withFault);
        seen.state();
        if (seen.calls + seen.calls - callsBefore < MOST_CALLS) {
            seen.ask("back()");
            seen.state();
            seen.fault(withFault);
        }
        seen.tape();
        return seen.told.toString();
    }

    private int ask(String call) {
        String answer = Call.told(call).get(0).on(x);
        told.append(call).append(" = ").append(answer).append('\n');
        calls++;
        return answer.matches("-?[0-9]+") ? (int) Long.parseLong(answer) : 0;
    }

    private void ask(String name, int one, String others) {
        ask(name + "(" + one + ", " + others + ")");
    }

    private void fault(boolean withFault) {
        if (withFault) {
            ask("fault()");
        }
    }

    private void state() {
        int persons = ask("count(0)");
        int huts = ask("count(1)");
        ask("count(2)");
        int today = ask("count(3)");
        int waiters = ask("count(4)");
        int storms = ask("count(5)");
        int planks = ask("count(6)");
        ask("count(7)");
        ask("count(8)");
        ask("count(9)");
        for (int person = 0; person < persons; person++) {
            for (int what = 0; what < 7; what++) {
                ask("about", person, "2099, " + today + ", " + what);
            }
        }
        for (int hut = 0; hut < huts; hut++) {
            hut(hut, today);
        }
        for (int k = 1; k <= waiters; k++) {
            ask("order", k, "2099, 2099");
        }
        for (int storm = 0; storm < storms; storm++) {
            ask("sea", storm, today + ", false");
            ask("sea", storm, today + ", true");
        }
        for (int plank = 0; plank < planks; plank++) {
            ask("whose(" + plank + ")");
        }
        others(today);
    }

    private void hut(int hut, int today) {
        ask("holder", hut, "2099, " + today);
        ask("holder", hut, "2099, " + Math.max(1900, today - 1));
        ask("since", hut, "2099, " + today);
        ask("place", hut, "2099, " + today);
        ask("rent", hut, today + ", " + today);
        ask("allowed", hut, "" + today);
        ask("breaches(" + hut + ")");
        ask("painted(" + hut + ")");
        ask("level", hut, today + ", false");
        ask("level", hut, today + ", true");
    }

    private void others(int today) {
        String[] calls = {"leaves(2099, 1)", "leaves(2099, 9)", "income(2099, 1)", "howLong(10, false)",
            "howLong(10, true)", "toll(1900, 100)", "toll(1950, 100)", "toll(2099, 100)", "dodged(1)", "dodged(99)",
            "lift(127, 2, 2, NONE)", "crane(1023, 0, 1, false)", "crane(1023, 30, 1, true)", "crane(1023, 59, 9, true)",
            "rows()", "thieves(false)", "thieves(true)"};
        for (String call : calls) {
            ask(call);
        }
        ask("flood", 50, today + ", false");
        ask("flood", 50, today + ", true");
    }

    /** How long the TAPE is, and what stands on it up to where that cannot go on. */
    private void tape() {
        ask("feed(0, 0, 0, 0, 0)");
        ask("text(0)");
        ask("fault()");
    }
}
