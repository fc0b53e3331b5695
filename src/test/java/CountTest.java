/** Promise 21 (count). */
public final class CountTest {
    public static void main(String[] args) {
        eachIsCountedApart();
        countRefuses();
        Checks.end();
    }

    private static void eachIsCountedApart() {
        NameMerges x = Checks.withNames(7);
        for (int i = 0; i < 6; i++) {
            Checks.call(x, i / 2, "abc");
        }
        Checks.write(x, "abcde");
        for (int i = 0; i < 4; i++) {
            x.merge(i, i + 1, 5);
        }
        x.part(0, 1, 9);
        for (int i = 0; i < 3; i++) {
            x.decide(i, 6, 1 + i % 2);
        }
        x.broader(0, 1);
        x.broader(1, 2);
        x.broader(0, 1);
        x.broader(2, 0);
        int[] due = {5, 7, 6, 4, 3, 2};
        for (int what = 0; what < due.length; what++) {
            Checks.same("count " + what, x.count(what), due[what]);
        }
        x.decide(6, 0, 0);
        Checks.same("one is not decided any more", x.count(4), 2);
        x.clear();
        Checks.same("no signs", x.count(0), 0);
    }

    private static void countRefuses() {
        NameMerges x = Checks.withNames(1);
        int[] none = {-1, 6, Integer.MIN_VALUE, Integer.MAX_VALUE};
        for (int what : none) {
            Checks.noPlace("count " + what, () -> x.count(what));
        }
    }
}
