/** Promises 19 (outside) and 20 (whose). */
public final class OutsideTest {
    public static void main(String[] args) {
        oneNumberInASet();
        noTwoHaveTheSame();
        edges();
        outsideRefuses();
        whoseRefuses();
        Checks.end();
    }

    private static void oneNumberInASet() {
        NameMerges x = Checks.withNames(2);
        Checks.yes("a number", x.outside(0, 1, 7));
        Checks.same("whose", x.whose(1, 7), 0);
        Checks.yes("the same again", x.outside(0, 1, 7));
        Checks.yes("in place of it", x.outside(0, 1, 8));
        Checks.same("the old one is free", x.whose(1, 7), NameMerges.NONE);
        Checks.same("the new one", x.whose(1, 8), 0);
        Checks.yes("another set", x.outside(0, 2, 9));
        Checks.same("this set stays", x.whose(1, 8), 0);
        Checks.same("not in that set", x.whose(2, 8), NameMerges.NONE);
    }

    private static void noTwoHaveTheSame() {
        NameMerges x = Checks.withNames(3);
        x.outside(2, 0, 5);
        x.outside(1, 0, 6);
        Checks.no("another name has it", x.outside(1, 0, 5));
        Checks.same("that one keeps it", x.whose(0, 5), 2);
        Checks.same("this one keeps its own", x.whose(0, 6), 1);
        Checks.no("nor the other way", x.outside(2, 0, 6));
        Checks.yes("in another set", x.outside(1, 3, 5));
        x.outside(2, 0, 4);
        Checks.yes("it is free now", x.outside(1, 0, 5));
        Checks.same("whose now", x.whose(0, 5), 1);
        x.merge(0, 1, 0);
        Checks.no("merged ones are two names", x.outside(0, 0, 5));
    }

    private static void edges() {
        NameMerges x = Checks.withNames(24);
        Checks.yes("1 in set 0", x.outside(0, 0, 1));
        Checks.yes("999999 in set 3", x.outside(23, 3, 999999));
        Checks.same("whose 1", x.whose(0, 1), 0);
        Checks.same("whose 999999", x.whose(3, 999999), 23);
    }

    private static void outsideRefuses() {
        NameMerges x = Checks.withNames(1);
        Checks.noPlace("no name 1, number too", () -> x.outside(1, 0, 0));
        Checks.noPlace("no name -1", () -> x.outside(-1, 0, 1));
        Checks.noPlace("set 4, number too", () -> x.outside(0, 4, 0));
        Checks.noPlace("set -1", () -> x.outside(0, -1, 1));
        x.outside(0, 0, 3);
        int[] none = {0, -1, 1000000, Integer.MIN_VALUE, Integer.MAX_VALUE};
        for (int number : none) {
            Checks.badArgument("number " + number, () -> x.outside(0, 0, number));
        }
        Checks.same("it stays", x.whose(0, 3), 0);
    }

    private static void whoseRefuses() {
        NameMerges x = Checks.withNames(2);
        Checks.noPlace("set 4", () -> x.whose(4, 1));
        Checks.noPlace("set -1", () -> x.whose(-1, 1));
        int[] none = {0, -1, 1, 999999, 1000000, Integer.MIN_VALUE, Integer.MAX_VALUE};
        for (int number : none) {
            Checks.same("whose " + number, x.whose(0, number), NameMerges.NONE);
        }
    }
}
