import java.util.ArrayList;
import java.util.Arrays;
import java.util.HashMap;
import java.util.HashSet;
import java.util.List;
import java.util.Map;
import java.util.Set;
import java.util.TreeSet;

/**
 * The document's words, done as plainly as they can be: every day and every set is looked through.
 * It shares no way of working with NameMerges, so that a fault of one shows against the other.
 */
final class SlowModel {
    /** Tests use only days up to NEAR and from FAR on, so that a look at these is a look at all. */
    static final int NEAR = 123;
    static final int FAR = 99995;
    static final int LAST = 100000;

    private record Variant(String text, int language, int from, int to) {
    }

    private static final class Merge {
        final Set<Integer> both;
        final int told;
        Integer parted = null;

        Merge(int a, int b, int told) {
            this.both = Set.of(a, b);
            this.told = told;
        }

        boolean holds(int day) {
            return day >= told && (parted == null || day < parted);
        }
    }

    private String pad = "";
    private final List<List<Variant>> names = new ArrayList<>();
    private final Map<Integer, List<Integer>> dates = new HashMap<>();
    private final Map<Set<Integer>, Integer> decided = new HashMap<>();
    private final List<Merge> merges = new ArrayList<>();
    private final Set<List<Integer>> broader = new HashSet<>();
    private final Map<List<Integer>, Integer> numbers = new HashMap<>();
    private List<List<Integer>> pairs = new ArrayList<>();
    private List<Integer> found = new ArrayList<>();

    long unit(int sign) {
        state(pad.length() < 12);
        argument(sign >= 'a' && sign <= 'z');
        pad = pad + (char) sign;
        return pad.length();
    }

    long clear() {
        int had = pad.length();
        pad = "";
        return had;
    }

    long name() {
        state(names.size() < 24);
        names.add(new ArrayList<>());
        return names.size() - 1;
    }

    long variant(int name, int language, int from, int to) {
        place(name, names.size());
        state(names.get(name).size() < 4 && !pad.isEmpty());
        argument(language >= 0 && language <= 5 && isDay(from) && isDay(to) && from <= to);
        names.get(name).add(new Variant(pad, language, from, to));
        pad = "";
        return names.get(name).size();
    }

    long dates(int name, int from, int to) {
        place(name, names.size());
        argument(isDay(from) && isDay(to) && from <= to);
        List<Integer> now = List.of(from, to);
        return now.equals(dates.put(name, now)) ? 0 : 1;
    }

    long score(int a, int b) {
        place(a, names.size());
        place(b, names.size());
        return likeness(a, b);
    }

    long candidates(int least) {
        pairs = new ArrayList<>();
        for (int a = 0; a < names.size(); a++) {
            for (int b = a + 1; b < names.size(); b++) {
                boolean open = kindOf(a, b) == 0 && !ones(a, LAST).contains(b);
                if (open && likeness(a, b) >= least) {
                    pairs.add(List.of(a, b));
                }
            }
        }
        return pairs.size();
    }

    long candidate(int k, int side) {
        place(k, pairs.size());
        place(side, 2);
        return pairs.get(k).get(side);
    }

    long lost(int least) {
        for (int a = 0; a < names.size(); a++) {
            for (int b = 0; b < names.size(); b++) {
                if (a != b && !beginAlike(a, b) && likeness(a, b) >= least) {
                    return 1;
                }
            }
        }
        return 0;
    }

    long decide(int a, int b, int kind) {
        place(a, names.size());
        place(b, names.size());
        argument(a != b && kind >= 0 && kind <= 2);
        int was = kindOf(a, b);
        decided.put(Set.of(a, b), kind);
        return was;
    }

    long merge(int a, int b, int told) {
        place(a, names.size());
        place(b, names.size());
        state(merges.size() < 60);
        argument(a != b && isDay(told));
        if (kindOf(a, b) == 2) {
            return 1;
        }
        for (int day = told; day <= LAST; day++) {
            if ((day <= NEAR || day >= FAR) && ones(a, day).contains(b)) {
                return 2;
            }
        }
        merges.add(new Merge(a, b, told));
        return 0;
    }

    long part(int a, int b, int told) {
        place(a, names.size());
        place(b, names.size());
        argument(isDay(told));
        Set<Integer> both = new HashSet<>(Arrays.asList(a, b));
        long ended = 0;
        for (Merge merge : merges) {
            if (merge.both.equals(both) && merge.parted == null && merge.told < told) {
                merge.parted = told;
                ended++;
            }
        }
        return ended;
    }

    long as(int name, int on) {
        place(name, names.size());
        argument(isDay(on));
        return ones(name, on).first();
    }

    long broader(int a, int b) {
        place(a, names.size());
        place(b, names.size());
        if (a == b || reaches(b, a)) {
            return -1;
        }
        return broader.add(List.of(a, b)) ? 1 : 0;
    }

    long covers(int a, int b) {
        place(a, names.size());
        place(b, names.size());
        return reaches(a, b) ? 1 : 0;
    }

    long find(int on) {
        argument(isDay(on));
        TreeSet<Integer> all = new TreeSet<>();
        for (int n = 0; n < names.size(); n++) {
            for (Variant v : names.get(n)) {
                if (v.text().equals(pad) && v.from() <= on && on <= v.to()) {
                    all.addAll(ones(n, on));
                }
            }
        }
        found = new ArrayList<>(all);
        return found.size();
    }

    long found(int k) {
        place(k, found.size());
        return found.get(k);
    }

    long outside(int name, int set, int number) {
        place(name, names.size());
        place(set, 4);
        argument(number >= 1 && number <= 999999);
        long owner = whose(set, number);
        if (owner != -1 && owner != name) {
            return 0;
        }
        numbers.put(List.of(name, set), number);
        return 1;
    }

    long whose(int set, int number) {
        place(set, 4);
        for (Map.Entry<List<Integer>, Integer> entry : numbers.entrySet()) {
            if (entry.getKey().get(1) == set && entry.getValue() == number) {
                return entry.getKey().get(0);
            }
        }
        return -1;
    }

    long count(int what) {
        place(what, 6);
        long[] counts = {
            pad.length(), names.size(), names.stream().mapToInt(List::size).sum(), merges.size(),
            decided.values().stream().filter(kind -> kind != 0).count(), broader.size()
        };
        return counts[what];
    }

    private static void place(int k, int size) {
        if (k < 0 || k >= size) {
            throw new IndexOutOfBoundsException();
        }
    }

    private static void state(boolean right) {
        if (!right) {
            throw new IllegalStateException();
        }
    }

    private static void argument(boolean right) {
        if (!right) {
            throw new IllegalArgumentException();
        }
    }

    private static boolean isDay(int day) {
        return day >= 0 && day <= LAST;
    }

    private int kindOf(int a, int b) {
        return decided.getOrDefault(Set.of(a, b), 0);
    }

    private int likeness(int a, int b) {
        int points = 0;
        boolean sameLanguage = false;
        for (Variant v : names.get(a)) {
            for (Variant w : names.get(b)) {
                int shared = longest(v.text(), w.text());
                points = Math.max(points, 20 * shared / (v.text().length() + w.text().length()));
                sameLanguage |= v.language() == w.language();
            }
        }
        return points + (sameLanguage ? 2 : 0) + byDates(a, b);
    }

    private int byDates(int a, int b) {
        if (!dates.containsKey(a) || !dates.containsKey(b)) {
            return 0;
        }
        for (int day = dates.get(a).get(0); day <= dates.get(a).get(1); day++) {
            if (day >= dates.get(b).get(0) && day <= dates.get(b).get(1)) {
                return 3;
            }
        }
        return -5;
    }

    /** Tries every choice of signs of a text in another one. */
    private static int longest(String a, String b) {
        int most = 0;
        for (int choice = 0; choice < 1 << a.length(); choice++) {
            if (Integer.bitCount(choice) > most && fits(a, choice, b)) {
                most = Integer.bitCount(choice);
            }
        }
        return most;
    }

    private static boolean fits(String a, int choice, String b) {
        int from = 0;
        for (int i = 0; i < a.length(); i++) {
            if ((choice >> i & 1) == 1) {
                from = b.indexOf(a.charAt(i), from) + 1;
                if (from == 0) {
                    return false;
                }
            }
        }
        return true;
    }

    private boolean beginAlike(int a, int b) {
        for (Variant v : names.get(a)) {
            for (Variant w : names.get(b)) {
                if (v.text().charAt(0) == w.text().charAt(0)) {
                    return true;
                }
            }
        }
        return false;
    }

    private TreeSet<Integer> ones(int name, int day) {
        TreeSet<Integer> group = new TreeSet<>(List.of(name));
        boolean grown = true;
        while (grown) {
            grown = false;
            for (Merge merge : merges) {
                boolean touches = merge.both.stream().anyMatch(group::contains);
                if (merge.holds(day) && touches) {
                    grown |= group.addAll(merge.both);
                }
            }
        }
        return group;
    }

    private boolean reaches(int a, int b) {
        Set<Integer> seen = new HashSet<>();
        List<Integer> open = new ArrayList<>(List.of(a));
        while (!open.isEmpty()) {
            int at = open.remove(open.size() - 1);
            for (List<Integer> pair : broader) {
                if (pair.get(0) == at && seen.add(pair.get(1))) {
                    open.add(pair.get(1));
                }
            }
        }
        return seen.contains(b);
    }
}
