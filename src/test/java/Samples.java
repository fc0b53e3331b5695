/** Objects in which every part of the state is used, and a telling of all that can be seen of one. */
final class Samples {
    /** The dates of names 0, 1, .. . */
    private static final int[][] DATES = {{10, 20}, {20, 30}, {40, 50}, {0, 100000}};
    private static final int[] DAYS = {0, 9, 10, 14, 15, 19, 20, 29, 30, 117, 118, 100000};
    private static final int[] NUMBERS = {1, 7, 8, 999999};
    /** Names above these are all alike in the samples. */
    private static final int SEEN = 6;

    private Samples() {
    }

    /** Six names, room for more of everything, three signs on the pad, pairs and names found. */
    static NameMerges some() {
        NameMerges x = Checks.withNames(6);
        fill(x, "pad");
        x.merge(0, 1, 10);
        x.part(0, 1, 20);
        x.merge(1, 2, 15);
        x.merge(3, 5, 30);
        search(x, "pad");
        return x;
    }

    /** As many names, signs and merges as there may be, and four variants of name 0. */
    static NameMerges full() {
        NameMerges x = Checks.withNames(24);
        fill(x, "abcdefghijkl");
        Checks.call(x, 0, "q", 4);
        Checks.call(x, 0, "r", 5);
        for (int i = 0; i < 58; i++) {
            x.merge(0, 1, 2 * i);
            x.part(0, 1, 2 * i + 1);
        }
        x.merge(1, 2, 118);
        x.merge(3, 5, 30);
        search(x, "abcdefghijkl");
        return x;
    }

    private static void fill(NameMerges x, String text) {
        Checks.call(x, 0, "abc", 0);
        Checks.call(x, 0, "ab", 1);
        Checks.call(x, 1, "abd", 1);
        Checks.call(x, 2, "bc", 2);
        Checks.call(x, 3, text, 3);
        for (int n = 0; n < DATES.length; n++) {
            x.dates(n, DATES[n][0], DATES[n][1]);
        }
        x.decide(0, 2, 1);
        x.decide(4, 3, 2);
        x.broader(0, 1);
        x.broader(1, 2);
        x.broader(3, 4);
        x.outside(0, 0, 7);
        x.outside(1, 0, 8);
        x.outside(2, 3, 999999);
        x.outside(3, 2, 1);
    }

    private static void search(NameMerges x, String text) {
        x.candidates(3);
        Checks.write(x, text);
        x.find(30);
    }

    /** It changes the object, so it is asked for once, at the end. */
    static String tell(NameMerges x) {
        StringBuilder told = new StringBuilder();
        tellFound(x, told);
        tellNames(x, told);
        tellDays(x, told);
        tellKept(x, told);
        tellVariants(x, told);
        return told.toString();
    }

    private static void tellFound(NameMerges x, StringBuilder told) {
        told.append("found");
        boolean more = true;
        for (int k = 0; more; k++) {
            int each = k;
            more = tellOne(told, () -> told.append(' ').append(x.found(each)));
        }
        told.append("; pairs");
        more = true;
        for (int k = 0; more; k++) {
            int each = k;
            more = tellOne(told, () -> told.append(' ').append(x.candidate(each, 0)))
                    && tellOne(told, () -> told.append('-').append(x.candidate(each, 1)));
        }
        told.append("; counts");
        for (int what = 0; what <= 5; what++) {
            told.append(' ').append(x.count(what));
        }
        told.append("; with the pad ").append(x.find(30));
    }

    private static boolean tellOne(StringBuilder told, Checks.Call call) {
        String thrown = Checks.thrownBy(call);
        if (!thrown.equals(Checks.NOTHING_THROWN)) {
            told.append(" ..").append(thrown);
        }
        return thrown.equals(Checks.NOTHING_THROWN);
    }

    private static void tellNames(NameMerges x, StringBuilder told) {
        told.append("; scores and covers");
        for (int a = 0; a < SEEN; a++) {
            for (int b = a; b < SEEN; b++) {
                told.append(' ').append(x.score(a, b));
                told.append(x.covers(a, b) ? '>' : '.').append(x.covers(b, a) ? '<' : '.');
            }
        }
        told.append("; lost");
        for (int least = -5; least <= 10; least += 3) {
            told.append(x.lost(least) ? " yes" : " no");
        }
        told.append("; candidates ").append(x.candidates(-5));
    }

    private static void tellDays(NameMerges x, StringBuilder told) {
        told.append("; as");
        for (int day : DAYS) {
            for (int n = 1; n < SEEN; n++) {
                told.append(' ').append(x.as(n, day));
            }
        }
    }

    private static void tellKept(NameMerges x, StringBuilder told) {
        told.append("; dates changed");
        for (int n = 0; n < DATES.length; n++) {
            told.append(' ').append(x.dates(n, DATES[n][0], DATES[n][1]));
        }
        told.append("; decided");
        for (int a = 0; a < SEEN; a++) {
            for (int b = a + 1; b < SEEN; b++) {
                told.append(' ').append(x.decide(a, b, 0));
            }
        }
        told.append("; outside");
        for (int set = 0; set < 4; set++) {
            for (int number : NUMBERS) {
                told.append(' ').append(x.whose(set, number));
            }
        }
    }

    private static void tellVariants(NameMerges x, StringBuilder told) {
        told.append("; variants");
        for (int n = 0; n < SEEN; n++) {
            int each = n;
            x.clear();
            x.unit('z');
            tellOne(told, () -> told.append(' ').append(x.variant(each, 0, 0, 0)));
        }
    }
}
