/** Promises 1 (a new object), 2 (unit) and 3 (clear). */
public final class PadTest {
    public static void main(String[] args) {
        newObjectIsEmpty();
        objectsAreApart();
        signsGoBehindThePad();
        onlySignsAreTaken();
        fullPadTakesNone();
        clearEmptiesThePad();
        Checks.end();
    }

    private static void newObjectIsEmpty() {
        NameMerges x = new NameMerges();
        for (int what = 0; what <= 5; what++) {
            Checks.same("new: count " + what, x.count(what), 0);
        }
        Checks.noPlace("new: score", () -> x.score(0, 0));
        Checks.noPlace("new: candidate", () -> x.candidate(0, 0));
        Checks.noPlace("new: found", () -> x.found(0));
        Checks.same("new: candidates", x.candidates(Integer.MIN_VALUE), 0);
        Checks.no("new: lost", x.lost(Integer.MIN_VALUE));
        Checks.same("new: find", x.find(0), 0);
        Checks.same("new: whose", x.whose(0, 1), NameMerges.NONE);
        Checks.same("NONE", NameMerges.NONE, -1);
    }

    private static void objectsAreApart() {
        NameMerges one = Checks.withNames(2);
        one.decide(0, 1, 1);
        one.outside(0, 0, 5);
        NameMerges other = Checks.withNames(2);
        Checks.same("apart: decided", other.count(4), 0);
        Checks.same("apart: whose", other.whose(0, 5), NameMerges.NONE);
    }

    private static void signsGoBehindThePad() {
        NameMerges x = Checks.withNames(1);
        Checks.same("unit 1", x.unit(98), 1);
        Checks.same("unit 2", x.unit(97), 2);
        x.variant(0, 0, 0, 0);
        Checks.write(x, "ab");
        Checks.same("the order counts", x.find(0), 0);
        x.clear();
        Checks.write(x, "ba");
        Checks.same("behind, not ahead", x.find(0), 1);
    }

    private static void onlySignsAreTaken() {
        NameMerges x = new NameMerges();
        int[] none = {96, 123, 0, -1, 65, 97 + 65536, Integer.MIN_VALUE, Integer.MAX_VALUE};
        for (int sign : none) {
            Checks.badArgument("unit " + sign, () -> x.unit(sign));
        }
        Checks.same("the pad stays empty", x.count(0), 0);
        Checks.same("first sign", x.unit(97), 1);
        Checks.same("last sign", x.unit(122), 2);
    }

    private static void fullPadTakesNone() {
        NameMerges x = new NameMerges();
        for (int i = 1; i <= 12; i++) {
            Checks.same("unit " + i, x.unit(96 + i), i);
        }
        Checks.badState("unit 13", () -> x.unit(97));
        Checks.badState("unit 13, no sign: the state goes first", () -> x.unit(0));
        Checks.same("still twelve", x.count(0), 12);
    }

    private static void clearEmptiesThePad() {
        NameMerges x = new NameMerges();
        Checks.same("clear of none", x.clear(), 0);
        Checks.write(x, "abcdefghijkl");
        Checks.same("clear of twelve", x.clear(), 12);
        Checks.same("clear again", x.clear(), 0);
        Checks.same("unit behind clear", x.unit(97), 1);
    }
}
