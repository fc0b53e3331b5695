/** Promises 15 (broader) and 16 (covers). */
public final class BroaderTest {
    public static void main(String[] args) {
        broaderIsToldOnce();
        ringsAreRefused();
        coversOverOthers();
        joinedInTheMiddle();
        longestChain();
        mergesDoNotMatter();
        bothRefuse();
        Checks.end();
    }

    private static void broaderIsToldOnce() {
        NameMerges x = Checks.withNames(3);
        Checks.same("told", x.broader(0, 1), 1);
        Checks.same("told already", x.broader(0, 1), 0);
        x.broader(1, 2);
        Checks.same("covered, but not told", x.broader(0, 2), 1);
        Checks.same("told then", x.broader(0, 2), 0);
        Checks.same("three pairs", x.count(5), 3);
    }

    private static void ringsAreRefused() {
        NameMerges x = Checks.withNames(4);
        Checks.same("itself", x.broader(1, 1), NameMerges.NONE);
        x.broader(0, 1);
        Checks.same("a ring of two", x.broader(1, 0), NameMerges.NONE);
        x.broader(1, 2);
        x.broader(2, 3);
        Checks.same("a ring of four", x.broader(3, 0), NameMerges.NONE);
        Checks.same("a ring of three", x.broader(3, 1), NameMerges.NONE);
        Checks.same("nothing changed", x.count(5), 3);
        Checks.no("3 covers none", x.covers(3, 0));
        Checks.no("0 does not cover itself", x.covers(0, 0));
    }

    private static void coversOverOthers() {
        NameMerges x = Checks.withNames(5);
        x.broader(0, 1);
        x.broader(0, 2);
        x.broader(1, 3);
        x.broader(2, 3);
        Checks.yes("told", x.covers(0, 1));
        Checks.yes("over others", x.covers(0, 3));
        Checks.no("not upwards", x.covers(3, 0));
        Checks.no("not aside", x.covers(1, 2));
        Checks.no("not itself", x.covers(3, 3));
        Checks.no("not another", x.covers(0, 4));
    }

    private static void joinedInTheMiddle() {
        NameMerges x = Checks.withNames(6);
        x.broader(5, 4);
        x.broader(4, 3);
        x.broader(2, 1);
        x.broader(1, 0);
        Checks.no("ahead", x.covers(5, 0));
        x.broader(3, 2);
        for (int a = 5; a > 0; a--) {
            for (int b = a - 1; b >= 0; b--) {
                Checks.yes("covers " + a + " " + b, x.covers(a, b));
                Checks.no("covers " + b + " " + a, x.covers(b, a));
                Checks.same("ring " + b + " " + a, x.broader(b, a), NameMerges.NONE);
            }
        }
    }

    private static void longestChain() {
        NameMerges x = Checks.withNames(24);
        for (int n = 0; n < 23; n++) {
            x.broader(n, n + 1);
        }
        Checks.yes("first covers last", x.covers(0, 23));
        Checks.same("last not first", x.broader(23, 0), NameMerges.NONE);
        Checks.same("first is told of last", x.broader(0, 23), 1);
        Checks.same("pairs", x.count(5), 24);
    }

    private static void mergesDoNotMatter() {
        NameMerges x = Checks.withNames(3);
        x.merge(0, 1, 0);
        Checks.same("merged ones", x.broader(0, 1), 1);
        x.broader(1, 2);
        Checks.no("as themselves", x.covers(1, 1));
    }

    private static void bothRefuse() {
        NameMerges x = Checks.withNames(2);
        Checks.noPlace("broader(0, 2)", () -> x.broader(0, 2));
        Checks.noPlace("broader(2, 0)", () -> x.broader(2, 0));
        Checks.noPlace("broader(2, 2)", () -> x.broader(2, 2));
        Checks.noPlace("broader(-1, 0)", () -> x.broader(-1, 0));
        Checks.noPlace("covers(0, 2)", () -> x.covers(0, 2));
        Checks.noPlace("covers(2, 0)", () -> x.covers(2, 0));
        Checks.noPlace("covers(0, -1)", () -> x.covers(0, -1));
        Checks.noPlace("covers(32, 0)", () -> x.covers(32, 0));
        Checks.same("none is told", x.count(5), 0);
    }
}
