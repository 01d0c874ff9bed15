import java.util.ArrayList;
import java.util.Comparator;
import java.util.HashMap;
import java.util.List;
import java.util.Map;

/** How all stands after some events, kept as their history and asked by looking through it. */
final class ModelState {
    private final Model model;
    private final int year;
    private final List<int[]> history = new ArrayList<>();
    final List<Integer> row = new ArrayList<>();
    final int[] holder;
    final int[] since;
    /** The sales by which a hut came to another one: the event, and 1 if that was kin. */
    final List<int[]> sold = new ArrayList<>();

    ModelState(Model model, int year, int known) {
        this.model = model;
        this.year = year;
        holder = new int[model.huts.size()];
        since = new int[model.huts.size()];
        for (int hut = 0; hut < holder.length; hut++) {
            row.add(hut);
            holder[hut] = model.huts.get(hut)[1];
            since[hut] = 1900;
        }
        List<int[]> known1 = new ArrayList<>();
        for (int[] event : model.events) {
            if (event[0] <= year && event[1] <= known) {
                known1.add(event);
            }
        }
        known1.sort(Comparator.comparingInt(event -> event[0]));
        for (int[] event : known1) {
            happen(event);
            history.add(event);
        }
    }

    private void happen(int[] event) {
        int a = event[3];
        int b = event[4];
        switch (event[2]) {
            case 0:
                if (living(a)) {
                    history.add(event);
                    for (int hut = 0; hut < holder.length; hut++) {
                        if (holder[hut] == a) {
                            holder[hut] = heir(a, hut, event[0]);
                            since[hut] = event[0];
                        }
                    }
                    history.remove(history.size() - 1);
                }
                break;
            case 4:
                if (holder[a] >= 0 && holder[a] != b && living(b)) {
                    sold.add(new int[] {event[0], a, event[5], kin(holder[a]).contains(b) ? 1 : 0});
                    holder[a] = b;
                    since[a] = event[0];
                }
                break;
            case 5:
                if (holder[a] < 0 && living(b)) {
                    holder[a] = b;
                    since[a] = event[0];
                }
                break;
            case 6:
                row.remove((Integer) a);
                row.add(b, a);
                break;
            default:
        }
    }

    boolean living(int person) {
        return history.stream().noneMatch(event -> event[2] == 0 && event[3] == person);
    }

    int spouse(int a) {
        for (int i = history.size() - 1; i >= 0; i--) {
            int[] event = history.get(i);
            if (event[2] == 1 && (event[3] == a || event[4] == a)) {
                int other = event[3] + event[4] - a;
                for (int[] later : history.subList(i, history.size())) {
                    boolean these = later[3] == a && later[4] == other || later[3] == other && later[4] == a;
                    if (later[2] == 2 && these) {
                        return -1;
                    }
                }
                return living(other) ? other : -1;
            }
        }
        return -1;
    }

    private boolean isParent(int a, int b) {
        return history.stream().anyMatch(event -> event[2] == 3 && event[3] == a && event[4] == b);
    }

    List<Integer> children(int a) {
        List<Integer> all = new ArrayList<>();
        for (int b = 0; b < model.persons.size(); b++) {
            if (isParent(a, b) && living(b)) {
                all.add(b);
            }
        }
        return all;
    }

    private List<Integer> parents(int a) {
        List<Integer> all = new ArrayList<>();
        for (int b = 0; b < model.persons.size(); b++) {
            if (isParent(b, a)) {
                all.add(b);
            }
        }
        return all;
    }

    int parent(int a) {
        return parents(a).stream().filter(this::living).findFirst().orElse(-1);
    }

    private List<Integer> siblings(int a) {
        List<Integer> all = new ArrayList<>();
        for (int parent : parents(a)) {
            for (int child : children(parent)) {
                if (child != a && !all.contains(child)) {
                    all.add(child);
                }
            }
        }
        return all;
    }

    int brother(int a) {
        return eldest(siblings(a));
    }

    int eldest(List<Integer> some) {
        return some.stream().min(Comparator.<Integer>comparingInt(one -> model.persons.get(one)[0])
            .thenComparingInt(one -> one)).orElse(-1);
    }

    private List<Integer> kin(int a) {
        List<Integer> all = new ArrayList<>(children(a));
        all.add(spouse(a));
        all.addAll(parents(a));
        all.addAll(siblings(a));
        return all;
    }

    private int heir(int a, int hut, int when) {
        if (model.texts[0] == null) {
            return -1;
        }
        Map<String, Integer> facts = personFacts(a, when);
        facts.put("held", when - since[hut]);
        facts.put("size", model.huts.get(hut)[0]);
        for (ModelText.Line line : model.texts[0].lines) {
            if (line.condition.holds(facts)) {
                int one = line.whom.equals("spouse") ? spouse(a) : line.whom.equals("child") ? eldest(children(a))
                    : line.whom.equals("parent") ? parent(a) : brother(a);
                if (one >= 0) {
                    return one;
                }
            }
        }
        return -1;
    }

    private Map<String, Integer> personFacts(int a, int when) {
        Map<String, Integer> facts = new HashMap<>();
        facts.put("year", when);
        facts.put("age", Math.max(0, when - model.persons.get(a)[0]));
        facts.put("children", children(a).size());
        facts.put("local", model.persons.get(a)[2]);
        return facts;
    }

    Map<String, Integer> hutFacts(int hut) {
        Map<String, Integer> facts = new HashMap<>();
        int one = holder[hut];
        facts.put("year", year);
        facts.put("size", model.huts.get(hut)[0]);
        facts.put("place", row.indexOf(hut));
        facts.put("weeks", model.huts.get(hut)[2]);
        facts.put("held", one < 0 ? 0 : year - since[hut]);
        facts.put("local", one < 0 ? 0 : model.persons.get(one)[2]);
        return facts;
    }

    int rent(int hut) {
        return model.texts[1] == null ? 0 : Math.max(0, model.texts[1].total(hutFacts(hut)));
    }

    int colours(int hut) {
        if (model.texts[3] == null) {
            return 255;
        }
        int bits = 0;
        for (ModelText.Line line : model.texts[3].lines) {
            bits |= line.condition.holds(hutFacts(hut)) ? 1 << line.number : 0;
        }
        return bits;
    }

    List<Integer> queue(int known) {
        List<int[]> all = new ArrayList<>();
        for (int[] waiter : model.waiters) {
            if (waiter[2] <= known && waiter[1] <= year && living(waiter[0])) {
                Map<String, Integer> facts = personFacts(waiter[0], year);
                facts.put("waited", year - waiter[1]);
                int value = model.texts[2] == null ? 0 : model.texts[2].total(facts);
                all.add(new int[] {-value, waiter[1], waiter[0]});
            }
        }
        all.sort(Comparator.<int[]>comparingInt(one -> one[0]).thenComparingInt(one -> one[1])
            .thenComparingInt(one -> one[2]));
        List<Integer> persons = new ArrayList<>();
        all.forEach(one -> persons.add(one[2]));
        return persons;
    }
}
