/** Promise 11 (decide). */
public final class DecisionsTest {
    public static void main(String[] args) {
        decideAnswersWhatItWas();
        pairsAreApart();
        decideRefuses();
        Checks.end();
    }

    private static void decideAnswersWhatItWas() {
        NameMerges x = Checks.withNames(2);
        Checks.same("not decided at first", x.decide(0, 1, 1), 0);
        Checks.same("the same", x.decide(0, 1, 2), 1);
        Checks.same("unlike, in the other order", x.decide(1, 0, 0), 2);
        Checks.same("not any more", x.decide(0, 1, 0), 0);
        Checks.same("in the other order", x.decide(1, 0, 1), 0);
        Checks.same("it is the same pair", x.decide(0, 1, 1), 1);
    }

    private static void pairsAreApart() {
        NameMerges x = Checks.withNames(24);
        for (int a = 0; a < 24; a++) {
            x.decide(a, (a + 1) % 24, 1 + a % 2);
        }
        Checks.same("pairs", x.count(4), 24);
        for (int a = 0; a < 24; a++) {
            Checks.same("pair of " + a, x.decide((a + 1) % 24, a, 0), 1 + a % 2);
        }
        Checks.same("no pairs", x.count(4), 0);
    }

    private static void decideRefuses() {
        NameMerges x = Checks.withNames(2);
        Checks.noPlace("no name 2", () -> x.decide(0, 2, 1));
        Checks.noPlace("no name 2 first, kind too", () -> x.decide(2, 0, 3));
        Checks.noPlace("no name 2, twice", () -> x.decide(2, 2, 1));
        Checks.noPlace("no name -1", () -> x.decide(-1, 0, 1));
        Checks.noPlace("no name -1 second", () -> x.decide(0, -1, 1));
        Checks.badArgument("a is b", () -> x.decide(1, 1, 1));
        Checks.badArgument("kind 3", () -> x.decide(0, 1, 3));
        Checks.badArgument("kind -1", () -> x.decide(0, 1, -1));
        Checks.same("nothing is decided", x.count(4), 0);
        x.decide(0, 1, 2);
        Checks.badArgument("kind 3 of a decided one", () -> x.decide(0, 1, 3));
        Checks.same("it stays", x.decide(0, 1, 2), 2);
    }
}
