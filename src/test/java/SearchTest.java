/** Promises 17 (find) and 18 (found). */
public final class SearchTest {
    public static void main(String[] args) {
        justThePad();
        variantsInForce();
        onesOfThatDay();
        anyVariant();
        findRefuses();
        foundStaysAndRefuses();
        allNames();
        Checks.end();
    }

    private static void justThePad() {
        NameMerges x = Checks.withNames(3);
        Checks.call(x, 0, "abc");
        Checks.call(x, 1, "ab");
        Checks.call(x, 2, "abc");
        Checks.text("an empty pad", Checks.foundNames(x, 0), "");
        Checks.write(x, "ab");
        Checks.text("ab", Checks.foundNames(x, 0), "1");
        Checks.same("the pad stays", x.count(0), 2);
        x.unit('c');
        Checks.text("abc", Checks.foundNames(x, 0), "0 2");
        x.unit('d');
        Checks.text("abcd", Checks.foundNames(x, 0), "");
        x.clear();
        Checks.write(x, "abd");
        Checks.text("abd", Checks.foundNames(x, 0), "");
    }

    private static void variantsInForce() {
        NameMerges x = Checks.withNames(1);
        x.unit('a');
        x.variant(0, 0, 10, 20);
        x.unit('a');
        int[][] due = {{0, 0}, {9, 0}, {10, 1}, {15, 1}, {20, 1}, {21, 0}, {100000, 0}};
        for (int[] row : due) {
            Checks.same("on " + row[0], x.find(row[0]), row[1]);
        }
    }

    private static void onesOfThatDay() {
        NameMerges x = Checks.withNames(6);
        x.merge(5, 3, 10);
        x.merge(3, 0, 20);
        x.part(5, 3, 30);
        Checks.call(x, 3, "a");
        Checks.text("the pad is empty", Checks.foundNames(x, 20), "");
        x.unit('a');
        Checks.text("ahead of merges", Checks.foundNames(x, 9), "3");
        Checks.text("one merge", Checks.foundNames(x, 10), "3 5");
        Checks.text("two merges", Checks.foundNames(x, 29), "0 3 5");
        Checks.text("one is parted", Checks.foundNames(x, 30), "0 3");
        x.clear();
        Checks.call(x, 1, "a");
        x.unit('a');
        Checks.text("two groups, by numbers", Checks.foundNames(x, 29), "0 1 3 5");
    }

    private static void anyVariant() {
        NameMerges x = Checks.withNames(1);
        String[] texts = {"a", "b", "c", "d"};
        for (String text : texts) {
            Checks.call(x, 0, text);
        }
        for (String text : texts) {
            Checks.write(x, text);
            Checks.same("variant " + text, x.find(5), 1);
            x.clear();
        }
        NameMerges y = Checks.withNames(1);
        y.unit('a');
        y.variant(0, 0, 0, 5);
        y.unit('a');
        y.variant(0, 0, 10, 15);
        y.unit('a');
        Checks.same("the second one is in force", y.find(12), 1);
        Checks.same("none is in force", y.find(7), 0);
    }

    private static void findRefuses() {
        NameMerges x = Checks.withNames(1);
        Checks.call(x, 0, "a");
        x.unit('a');
        x.find(0);
        Checks.badArgument("day -1", () -> x.find(-1));
        Checks.badArgument("day 100001", () -> x.find(100001));
        Checks.same("what was found stays", x.found(0), 0);
        Checks.same("day 100000", x.find(100000), 1);
    }

    private static void foundStaysAndRefuses() {
        NameMerges x = Checks.withNames(3);
        Checks.noPlace("nothing was looked for", () -> x.found(0));
        Checks.call(x, 1, "a");
        Checks.call(x, 2, "a");
        x.unit('a');
        x.find(0);
        x.clear();
        x.merge(0, 1, 0);
        x.candidates(0);
        Checks.same("the first", x.found(0), 1);
        Checks.same("the second", x.found(1), 2);
        Checks.noPlace("no third", () -> x.found(2));
        Checks.noPlace("k -1", () -> x.found(-1));
        Checks.noPlace("k MAX", () -> x.found(Integer.MAX_VALUE));
        x.find(0);
        Checks.noPlace("none was found latest", () -> x.found(0));
    }

    private static void allNames() {
        NameMerges x = Checks.withNames(24);
        for (int n = 0; n < 23; n++) {
            x.merge(n, n + 1, 0);
        }
        Checks.call(x, 12, "a");
        x.unit('a');
        Checks.same("all are one", x.find(0), 24);
        for (int k = 0; k < 24; k++) {
            Checks.same("found " + k, x.found(k), k);
        }
    }
}
