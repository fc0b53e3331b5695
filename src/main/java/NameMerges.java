import java.util.ArrayList;
import java.util.Arrays;

/**
 * Names of persons, places and kinds: their variants and how like they are, merges and partings by
 * the day, decisions by hand, broader and narrower names, numbers outside, and searches.
 *
 * <p>A set of names is held as an int whose bit n stands for name n: there are at most 24 of them.
 */
public final class NameMerges {
    public static final int NONE = -1;

    private static final int LAST_DAY = 100000;
    private static final int FOR_EVER = LAST_DAY + 1;
    private static final int FIRST_SIGN = 97;
    private static final int LAST_SIGN = 122;
    private static final int MOST_SIGNS = 12;
    private static final int MOST_NAMES = 24;
    private static final int MOST_VARIANTS = 4;
    private static final int MOST_MERGES = 60;
    private static final int MOST_PAIRS = MOST_NAMES * (MOST_NAMES - 1) / 2;
    private static final int LANGUAGES = 6;
    private static final int SETS = 4;
    private static final int HIGHEST_NUMBER = 999999;
    private static final int NO_NUMBER = 0;

    private static final int UNDECIDED = 0;
    private static final int UNLIKE = 2;

    private static final int FULL_POINTS = 20;
    private static final int LANGUAGE_POINTS = 2;
    private static final int DATES_MEET_POINTS = 3;
    private static final int DATES_APART_POINTS = -5;

    private final StringBuilder pad = new StringBuilder();
    private final ArrayList<Name> names = new ArrayList<>();
    private final ArrayList<Merge> merges = new ArrayList<>();
    /** What was decided, at the place of the pair. */
    private final int[] decisions = new int[MOST_NAMES * MOST_NAMES];
    /** The places of the pairs that candidates found latest. */
    private final int[] foundPairs = new int[MOST_PAIRS];
    private int foundPairCount = 0;
    /** The set of names that find found latest. */
    private int foundNames = 0;
    /** Room for longestShared, made once so that comparing texts makes no objects. */
    private final int[] sharedSoFar = new int[MOST_SIGNS + 1];

    public NameMerges() {
    }

    public int unit(int sign) throws IllegalStateException, IllegalArgumentException {
        if (pad.length() >= MOST_SIGNS) {
            throw new IllegalStateException("the pad is full");
        }
        if (sign < FIRST_SIGN || sign > LAST_SIGN) {
            throw new IllegalArgumentException("this is no sign");
        }
        pad.append((char) sign);
        return pad.length();
    }

    public int clear() {
        int had = pad.length();
        pad.setLength(0);
        return had;
    }

    public int name() throws IllegalStateException {
        if (names.size() >= MOST_NAMES) {
            throw new IllegalStateException("there are as many names as there may be");
        }
        names.add(new Name());
        return names.size() - 1;
    }

    public int variant(int name, int language, int from, int to)
            throws IndexOutOfBoundsException, IllegalStateException, IllegalArgumentException {
        checkName(name);
        Name owner = names.get(name);
        if (owner.variants.size() >= MOST_VARIANTS) {
            throw new IllegalStateException("the name has as many variants as it may have");
        }
        if (pad.length() == 0) {
            throw new IllegalStateException("the pad is empty");
        }
        if (language < 0 || language >= LANGUAGES) {
            throw new IllegalArgumentException("there is no such language");
        }
        checkDays(from, to);
        owner.variants.add(new Variant(pad.toString(), new Days(from, to)));
        owner.languages |= 1 << language;
        owner.beginnings |= 1 << (pad.charAt(0) - FIRST_SIGN);
        pad.setLength(0);
        return owner.variants.size();
    }

    public boolean dates(int name, int from, int to)
            throws IndexOutOfBoundsException, IllegalArgumentException {
        checkName(name);
        checkDays(from, to);
        Name owner = names.get(name);
        Days before = owner.dates;
        if (before != null && before.from == from && before.to == to) {
            return false;
        }
        owner.dates = new Days(from, to);
        return true;
    }

    public int score(int a, int b) throws IndexOutOfBoundsException {
        checkName(a);
        checkName(b);
        return likeness(names.get(a), names.get(b));
    }

    public int candidates(int least) {
        foundPairCount = 0;
        for (int a = 0; a < names.size(); a++) {
            int oneWithA = oneWith(a, LAST_DAY);
            for (int b = a + 1; b < names.size(); b++) {
                boolean open = !has(oneWithA, b) && decisions[placeOf(a, b)] == UNDECIDED;
                if (open && likeness(names.get(a), names.get(b)) >= least) {
                    keepPair(placeOf(a, b));
                }
            }
        }
        return foundPairCount;
    }

    public int candidate(int k, int side) throws IndexOutOfBoundsException {
        if (k < 0 || k >= foundPairCount) {
            throw new IndexOutOfBoundsException("there is no such pair");
        }
        if (side < 0 || side > 1) {
            throw new IndexOutOfBoundsException("there is no such side");
        }
        return side == 0 ? foundPairs[k] / MOST_NAMES : foundPairs[k] % MOST_NAMES;
    }

    public boolean lost(int least) {
        for (int a = 0; a < names.size(); a++) {
            for (int b = a + 1; b < names.size(); b++) {
                if (isLost(names.get(a), names.get(b), least)) {
                    return true;
                }
            }
        }
        return false;
    }

    public int decide(int a, int b, int kind)
            throws IndexOutOfBoundsException, IllegalArgumentException {
        checkName(a);
        checkName(b);
        checkDiffer(a, b);
        if (kind < UNDECIDED || kind > UNLIKE) {
            throw new IllegalArgumentException("there is no such kind of decision");
        }
        int place = placeOf(a, b);
        int before = decisions[place];
        decisions[place] = kind;
        return before;
    }

    public int merge(int a, int b, int told)
            throws IndexOutOfBoundsException, IllegalStateException, IllegalArgumentException {
        checkName(a);
        checkName(b);
        if (merges.size() >= MOST_MERGES) {
            throw new IllegalStateException("as many merges were told as may be");
        }
        checkDiffer(a, b);
        checkDay(told);
        if (decisions[placeOf(a, b)] == UNLIKE) {
            return 1;
        }
        if (areOneFrom(a, b, told)) {
            return 2;
        }
        merges.add(new Merge(setOf(a, b), told));
        return 0;
    }

    public boolean part(int a, int b, int told)
            throws IndexOutOfBoundsException, IllegalArgumentException {
        checkName(a);
        checkName(b);
        checkDay(told);
        int both = setOf(a, b);
        for (int i = 0; i < merges.size(); i++) {
            Merge merge = merges.get(i);
            // merge answers 2 where a second one could hold for ever, so the first is the only one
            if (merge.both == both && merge.parted == FOR_EVER && merge.told < told) {
                merge.parted = told;
                return true;
            }
        }
        return false;
    }

    public int as(int name, int on) throws IndexOutOfBoundsException, IllegalArgumentException {
        checkName(name);
        checkDay(on);
        return Integer.numberOfTrailingZeros(oneWith(name, on));
    }

    public int broader(int a, int b) throws IndexOutOfBoundsException {
        checkName(a);
        checkName(b);
        Name above = names.get(a);
        Name below = names.get(b);
        if (a == b || has(below.covered, a)) {
            return NONE;
        }
        if (has(above.narrower, b)) {
            return 0;
        }
        above.narrower |= 1 << b;
        coverBelow(a, below.covered | 1 << b);
        return 1;
    }

    public boolean covers(int a, int b) throws IndexOutOfBoundsException {
        checkName(a);
        checkName(b);
        return has(names.get(a).covered, b);
    }

    public int find(int on) throws IllegalArgumentException {
        checkDay(on);
        String text = pad.toString();
        foundNames = 0;
        for (int n = 0; n < names.size(); n++) {
            if (isCalled(names.get(n), text, on)) {
                foundNames |= oneWith(n, on);
            }
        }
        return Integer.bitCount(foundNames);
    }

    public int found(int k) throws IndexOutOfBoundsException {
        if (k < 0 || k >= Integer.bitCount(foundNames)) {
            throw new IndexOutOfBoundsException("no such name was found");
        }
        int rest = foundNames;
        for (int i = 0; i < k; i++) {
            rest &= rest - 1;
        }
        return Integer.numberOfTrailingZeros(rest);
    }

    public boolean outside(int name, int set, int number)
            throws IndexOutOfBoundsException, IllegalArgumentException {
        checkName(name);
        checkSet(set);
        if (!isNumber(number)) {
            throw new IllegalArgumentException("this is no number outside");
        }
        int owner = ownerOf(set, number);
        if (owner != NONE && owner != name) {
            return false;
        }
        names.get(name).numbers[set] = number;
        return true;
    }

    public int whose(int set, int number) throws IndexOutOfBoundsException {
        checkSet(set);
        return ownerOf(set, number);
    }

    public int count(int what) throws IndexOutOfBoundsException {
        switch (what) {
            case 0:
                return pad.length();
            case 1:
                return names.size();
            case 2:
                return countVariants();
            case 3:
                return merges.size();
            case 4:
                return countDecided();
            case 5:
                return countBroader();
            default:
                throw new IndexOutOfBoundsException("nothing is counted there");
        }
    }

    private void checkName(int name) {
        if (name < 0 || name >= names.size()) {
            throw new IndexOutOfBoundsException("there is no such name");
        }
    }

    private static void checkSet(int set) {
        if (set < 0 || set >= SETS) {
            throw new IndexOutOfBoundsException("there is no such set");
        }
    }

    private static void checkDiffer(int a, int b) {
        if (a == b) {
            throw new IllegalArgumentException("both are the same name");
        }
    }

    private static void checkDay(int day) {
        if (day < 0 || day > LAST_DAY) {
            throw new IllegalArgumentException("this is no day");
        }
    }

    private static void checkDays(int from, int to) {
        checkDay(from);
        checkDay(to);
        if (from > to) {
            throw new IllegalArgumentException("the days end ahead of their beginning");
        }
    }

    private static boolean isNumber(int number) {
        return number > NO_NUMBER && number <= HIGHEST_NUMBER;
    }

    private static int setOf(int a, int b) {
        return 1 << a | 1 << b;
    }

    private static boolean has(int set, int name) {
        return (set & 1 << name) != 0;
    }

    /** A pair has one place, whichever of the two is told first. */
    private static int placeOf(int a, int b) {
        return Math.min(a, b) * MOST_NAMES + Math.max(a, b);
    }

    private void keepPair(int place) {
        if (foundPairCount < foundPairs.length) {
            foundPairs[foundPairCount] = place;
            foundPairCount++;
        }
    }

    private int likeness(Name a, Name b) {
        int likeness = mostPoints(a, b);
        if ((a.languages & b.languages) != 0) {
            likeness += LANGUAGE_POINTS;
        }
        Days ofA = a.dates;
        Days ofB = b.dates;
        if (ofA != null && ofB != null) {
            likeness += ofA.meet(ofB) ? DATES_MEET_POINTS : DATES_APART_POINTS;
        }
        return likeness;
    }

    private int mostPoints(Name a, Name b) {
        int most = 0;
        for (int i = 0; i < a.variants.size(); i++) {
            for (int j = 0; j < b.variants.size(); j++) {
                most = Math.max(most, points(a.variants.get(i).text, b.variants.get(j).text));
            }
        }
        return most;
    }

    private int points(String a, String b) {
        int lengths = a.length() + b.length();
        return lengths == 0 ? 0 : FULL_POINTS * longestShared(a, b) / lengths;
    }

    /** How many signs both texts have in the same order, gaps between them allowed, at the most. */
    private int longestShared(String a, String b) {
        int width = Math.min(b.length(), MOST_SIGNS);
        Arrays.fill(sharedSoFar, 0);
        for (int i = 0; i < a.length(); i++) {
            int withoutBoth = 0;
            for (int j = 0; j < width; j++) {
                int withoutA = sharedSoFar[j + 1];
                sharedSoFar[j + 1] = a.charAt(i) == b.charAt(j)
                        ? withoutBoth + 1
                        : Math.max(withoutA, sharedSoFar[j]);
                withoutBoth = withoutA;
            }
        }
        return sharedSoFar[width];
    }

    private boolean isLost(Name a, Name b, int least) {
        return (a.beginnings & b.beginnings) == 0 && likeness(a, b) >= least;
    }

    /** The set of the names that are one with a name on a day, itself among them. */
    private int oneWith(int name, int day) {
        int group = 1 << name;
        int before = 0;
        // every round but the last adds a name
        for (int round = 0; round < MOST_NAMES && group != before; round++) {
            before = group;
            for (int i = 0; i < merges.size(); i++) {
                Merge merge = merges.get(i);
                if (merge.holdsOn(day) && (group & merge.both) != 0) {
                    group |= merge.both;
                }
            }
        }
        return group;
    }

    /** Names become one only on a day on which a merge begins: the days between need no look. */
    private boolean areOneFrom(int a, int b, int day) {
        if (has(oneWith(a, day), b)) {
            return true;
        }
        for (int i = 0; i < merges.size(); i++) {
            int begins = merges.get(i).told;
            if (begins > day && has(oneWith(a, begins), b)) {
                return true;
            }
        }
        return false;
    }

    /** A name, and every name that is broader than it, covers these too. */
    private void coverBelow(int name, int these) {
        for (int n = 0; n < names.size(); n++) {
            Name each = names.get(n);
            if (n == name || has(each.covered, name)) {
                each.covered |= these;
            }
        }
    }

    private static boolean isCalled(Name name, String text, int day) {
        for (int i = 0; i < name.variants.size(); i++) {
            Variant variant = name.variants.get(i);
            if (variant.inForce.contain(day) && variant.text.equals(text)) {
                return true;
            }
        }
        return false;
    }

    private int ownerOf(int set, int number) {
        if (!isNumber(number)) {
            return NONE;
        }
        for (int n = 0; n < names.size(); n++) {
            if (names.get(n).numbers[set] == number) {
                return n;
            }
        }
        return NONE;
    }

    private int countVariants() {
        int sum = 0;
        for (int n = 0; n < names.size(); n++) {
            sum += names.get(n).variants.size();
        }
        return sum;
    }

    private int countDecided() {
        int sum = 0;
        for (int decision : decisions) {
            if (decision != UNDECIDED) {
                sum++;
            }
        }
        return sum;
    }

    private int countBroader() {
        int sum = 0;
        for (int n = 0; n < names.size(); n++) {
            sum += Integer.bitCount(names.get(n).narrower);
        }
        return sum;
    }

    private static final class Name {
        final ArrayList<Variant> variants = new ArrayList<>();
        /** The number outside in each set, or NO_NUMBER. */
        final int[] numbers = new int[SETS];
        /** Null until they are told. */
        Days dates = null;
        /** Bit l: some variant has language l. */
        int languages = 0;
        /** Bit s: some variant begins with the sign FIRST_SIGN + s. */
        int beginnings = 0;
        /** The set of the names than which this one was told to be broader. */
        int narrower = 0;
        /** The same, over any others: kept with each telling, so that no search is needed. */
        int covered = 0;
    }

    private static final class Variant {
        final String text;
        final Days inForce;

        Variant(String text, Days inForce) {
            this.text = text;
            this.inForce = inForce;
        }
    }

    /** The days from one to another, both with them. */
    private static final class Days {
        final int from;
        final int to;

        Days(int from, int to) {
            this.from = from;
            this.to = to;
        }

        boolean contain(int day) {
            return from <= day && day <= to;
        }

        boolean meet(Days others) {
            return from <= others.to && others.from <= to;
        }
    }

    private static final class Merge {
        /** The set of the two names. */
        final int both;
        final int told;
        int parted = FOR_EVER;

        Merge(int both, int told) {
            this.both = both;
            this.told = told;
        }

        boolean holdsOn(int day) {
            return told <= day && day < parted;
        }
    }
}
