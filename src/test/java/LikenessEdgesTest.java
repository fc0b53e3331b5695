/** Promises 7 to 10: each sentence that names a boundary case has a test of its own. */
public final class LikenessEdgesTest {
    private static final int LAST_DAY = 100000;

    public static void main(String[] args) {
        scoreOfTwoNames();
        scoreAtItsEnds();
        scoreOfNoName();
        candidatesOfAllPairs();
        candidatesOfFewNames();
        candidatesLowerNumberFirst();
        candidatesAtLeastSoMuch();
        candidatesNotDecided();
        candidatesNotOneOnTheLastDay();
        candidateOfTheLatest();
        candidateByFirstThenSecond();
        candidateOfNoPair();
        candidateOfNoSide();
        lostAtLeastSoMuch();
        lostThoughNoneBeginsAlike();
        lostOfSomePair();
        lostOfFewNames();
        Checks.end();
    }

    /** All names are called "ab" in the same language: each two have a likeness of 12. */
    private static NameMerges alike(int count) {
        NameMerges x = Checks.withNames(count);
        for (int n = 0; n < count; n++) {
            Checks.call(x, n, "ab");
        }
        return x;
    }

    private static void scoreOfTwoNames() {
        Checks.sentence("Promise 7", "The likeness of two names");
        NameMerges x = alike(2);
        Checks.same("in this order", x.score(0, 1), 12);
        Checks.same("in the other order", x.score(1, 0), 12);
        Checks.same("a name and itself", x.score(1, 1), 12);
        x.merge(0, 1, 0);
        Checks.same("a merge does not count", x.score(0, 1), 12);
        x.decide(0, 1, 2);
        Checks.same("nor does a decision", x.score(0, 1), 12);
    }

    private static void scoreAtItsEnds() {
        Checks.sentence("Promise 7", "The likeness of two names (its least and its most)");
        NameMerges x = Checks.withNames(2);
        x.dates(0, 0, 4);
        x.dates(1, 5, 9);
        Checks.same("the least there is", x.score(0, 1), -5);
        Checks.call(x, 0, "abcdefghijkl");
        Checks.call(x, 1, "abcdefghijkl");
        Checks.same("10 + 2 - 5", x.score(0, 1), 7);
        x.dates(1, 4, 9);
        Checks.same("the most there is", x.score(0, 1), 15);
    }

    private static void scoreOfNoName() {
        Checks.sentence("Promise 7", "IndexOutOfBoundsException");
        NameMerges x = Checks.withNames(2);
        for (int none : new int[] {-1, 2, 24, 32, Integer.MIN_VALUE, Integer.MAX_VALUE}) {
            Checks.noPlace("first " + none, () -> x.score(none, 1));
            Checks.noPlace("second " + none, () -> x.score(1, none));
            Checks.noPlace("both " + none, () -> x.score(none, none));
        }
    }

    private static void candidatesOfAllPairs() {
        Checks.sentence("Promise 8", "Looks for all pairs .. : how many");
        for (int names = 2; names <= 24; names++) {
            Checks.same(names + " names", alike(names).candidates(12), names * (names - 1) / 2);
        }
    }

    private static void candidatesOfFewNames() {
        Checks.sentence("Promise 8", "Looks for all pairs (of which there are none)");
        Checks.same("no names", new NameMerges().candidates(Integer.MIN_VALUE), 0);
        Checks.same("one name", alike(1).candidates(Integer.MIN_VALUE), 0);
    }

    private static void candidatesLowerNumberFirst() {
        Checks.sentence("Promise 8", "(the lower number first)");
        NameMerges x = Checks.withNames(3);
        Checks.call(x, 2, "ab");
        Checks.call(x, 0, "ab");
        Checks.text("told later, but lower", Checks.candidatePairs(x, 1), "0-2");
    }

    private static void candidatesAtLeastSoMuch() {
        Checks.sentence("Promise 8", "with a likeness of at least so much");
        NameMerges x = alike(2);
        Checks.same("one less", x.candidates(11), 1);
        Checks.same("just so much", x.candidates(12), 1);
        Checks.same("one more", x.candidates(13), 0);
        Checks.same("least of all", x.candidates(Integer.MIN_VALUE), 1);
        Checks.same("most of all", x.candidates(Integer.MAX_VALUE), 0);
        NameMerges y = Checks.withNames(2);
        Checks.same("0 is at least 0", y.candidates(0), 1);
        Checks.same("0 is not 1", y.candidates(1), 0);
        y.dates(0, 0, 0);
        y.dates(1, 1, 1);
        Checks.same("-5 is at least -5", y.candidates(-5), 1);
        Checks.same("-5 is not -4", y.candidates(-4), 0);
    }

    private static void candidatesNotDecided() {
        Checks.sentence("Promise 8", "that are neither decided");
        NameMerges x = alike(3);
        x.decide(1, 0, 1);
        Checks.text("the same", Checks.candidatePairs(x, 1), "0-2 1-2");
        x.decide(2, 0, 2);
        Checks.text("unlike", Checks.candidatePairs(x, 1), "1-2");
        x.decide(0, 1, 0);
        Checks.text("not any more", Checks.candidatePairs(x, 1), "0-1 1-2");
    }

    private static void candidatesNotOneOnTheLastDay() {
        Checks.sentence("Promise 8", "nor one on the last day");
        NameMerges x = alike(3);
        x.merge(2, 0, 0);
        Checks.text("from the first day on", Checks.candidatePairs(x, 1), "0-1 1-2");
        x.part(0, 2, LAST_DAY);
        Checks.text("till the last day", Checks.candidatePairs(x, 1), "0-1 0-2 1-2");
        x.merge(0, 2, LAST_DAY);
        Checks.text("on the last day alone", Checks.candidatePairs(x, 1), "0-1 1-2");
        x.merge(2, 1, LAST_DAY);
        Checks.text("over another", Checks.candidatePairs(x, 1), "");
        NameMerges y = alike(2);
        y.merge(0, 1, 0);
        y.part(0, 1, 99999);
        Checks.text("not on the day ahead of it either", Checks.candidatePairs(y, 1), "0-1");
    }

    private static void candidateOfTheLatest() {
        Checks.sentence("Promise 9", "Pair k of those that were found latest");
        NameMerges x = alike(3);
        x.candidates(12);
        x.decide(0, 1, 1);
        x.merge(0, 2, 0);
        x.name();
        Checks.call(x, 1, "q");
        Checks.same("what changes later does not count", x.candidate(0, 0) * 10 + x.candidate(0, 1), 1);
        Checks.same("the last of three", x.candidate(2, 0) * 10 + x.candidate(2, 1), 12);
        x.candidates(12);
        Checks.same("one is left", x.candidate(0, 0) * 10 + x.candidate(0, 1), 12);
        Checks.noPlace("the others are gone", () -> x.candidate(1, 0));
        x.candidates(13);
        Checks.noPlace("none is left", () -> x.candidate(0, 0));
    }

    private static void candidateByFirstThenSecond() {
        Checks.sentence("Promise 9", "by the first name, then the second: the first (side 0) or second one (1)");
        NameMerges x = alike(18);
        Checks.same("pairs", x.candidates(12), 153);
        int k = 0;
        for (int a = 0; a < 18; a++) {
            for (int b = a + 1; b < 18; b++) {
                Checks.same("pair " + k + ", side 0", x.candidate(k, 0), a);
                Checks.same("pair " + k + ", side 1", x.candidate(k, 1), b);
                k++;
            }
        }
        NameMerges y = alike(24);
        y.candidates(12);
        for (k = 0; k < 276; k++) {
            int first = 0;
            int left = k;
            while (left >= 23 - first) {
                left -= 23 - first;
                first++;
            }
            int side = k % 2;
            Checks.same("pair " + k + " of 24 names", y.candidate(k, side), side == 0 ? first : first + 1 + left);
        }
    }

    private static void candidateOfNoPair() {
        Checks.sentence("Promise 9", "IndexOutOfBoundsException: there is no such pair");
        NameMerges x = alike(3);
        Checks.noPlace("nothing was looked for", () -> x.candidate(0, 0));
        x.candidates(12);
        for (int none : new int[] {-1, 3, 4, 276, Integer.MIN_VALUE, Integer.MAX_VALUE}) {
            Checks.noPlace("pair " + none, () -> x.candidate(none, 0));
            Checks.noPlace("pair " + none + ", side 1", () -> x.candidate(none, 1));
        }
        Checks.same("the last pair", x.candidate(2, 1), 2);
    }

    private static void candidateOfNoSide() {
        Checks.sentence("Promise 9", "IndexOutOfBoundsException: .. or side");
        NameMerges x = alike(3);
        x.candidates(12);
        for (int none : new int[] {-1, 2, 3, Integer.MIN_VALUE, Integer.MAX_VALUE}) {
            Checks.noPlace("side " + none, () -> x.candidate(0, none));
            Checks.noPlace("side " + none + " of the last", () -> x.candidate(2, none));
        }
    }

    /** Likeness 8, with other beginnings. */
    private static NameMerges lostPair() {
        NameMerges x = Checks.withNames(2);
        Checks.call(x, 0, "abc", 0);
        Checks.call(x, 1, "bc", 1);
        return x;
    }

    private static void lostAtLeastSoMuch() {
        Checks.sentence("Promise 10", "has a likeness of at least so much");
        NameMerges x = lostPair();
        Checks.yes("one less", x.lost(7));
        Checks.yes("just so much", x.lost(8));
        Checks.no("one more", x.lost(9));
        Checks.yes("least of all", x.lost(Integer.MIN_VALUE));
        Checks.no("most of all", x.lost(Integer.MAX_VALUE));
        x.dates(0, 0, 0);
        x.dates(1, 1, 1);
        Checks.yes("dates apart: 3", x.lost(3));
        Checks.no("dates apart: not 4", x.lost(4));
        NameMerges y = Checks.withNames(2);
        y.dates(0, 0, 0);
        y.dates(1, 1, 1);
        Checks.yes("-5 is at least -5", y.lost(-5));
        Checks.no("-5 is not -4", y.lost(-4));
    }

    private static void lostThoughNoneBeginsAlike() {
        Checks.sentence("Promise 10", "no variant of the one begins with the sign with which one of the other begins");
        for (int place = 0; place < 16; place++) {
            beginAlikeInOne(place / 4, place % 4);
        }
        NameMerges x = lostPair();
        Checks.call(x, 0, "xb", 0);
        Checks.yes("a sign farther behind does not count", x.lost(8));
        Checks.call(x, 0, "b", 0);
        Checks.no("a beginning does", x.lost(Integer.MIN_VALUE));
        NameMerges y = lostPair();
        y.unit('b');
        y.variant(0, 0, 7, 7);
        Checks.no("though it is in force on one day", y.lost(Integer.MIN_VALUE));
        for (int sign = 97; sign <= 122; sign++) {
            Checks.no("all begin with " + sign, beginWith(sign, sign).lost(Integer.MIN_VALUE));
            Checks.yes("one with " + sign, beginWith(sign, sign == 122 ? 97 : sign + 1).lost(0));
        }
    }

    private static void beginAlikeInOne(int placeOfA, int placeOfB) {
        NameMerges x = Checks.withNames(2);
        for (int i = 0; i < 4; i++) {
            Checks.call(x, 0, i == placeOfA ? "zk" : "ak");
            Checks.call(x, 1, i == placeOfB ? "zk" : "bk");
        }
        Checks.no("variant " + placeOfA + " and " + placeOfB, x.lost(Integer.MIN_VALUE));
    }

    private static NameMerges beginWith(int a, int b) {
        NameMerges x = Checks.withNames(2);
        x.unit(a);
        x.variant(0, 0, 0, 0);
        x.unit(b);
        x.variant(1, 0, 0, 0);
        return x;
    }

    private static void lostOfSomePair() {
        Checks.sentence("Promise 10", "Whether some pair of names");
        for (int a = 0; a < 24; a += 5) {
            for (int b = a + 1; b < 24; b++) {
                NameMerges x = Checks.withNames(24);
                Checks.call(x, a, "abc", 0);
                Checks.call(x, b, "bc", 1);
                Checks.yes("this alone: " + a + ", " + b, x.lost(8));
                Checks.no("none more", x.lost(9));
            }
        }
        NameMerges x = lostPair();
        x.decide(0, 1, 1);
        x.merge(0, 1, 0);
        Checks.yes("decided and one, all the same", x.lost(8));
    }

    private static void lostOfFewNames() {
        Checks.sentence("Promise 10", "some pair of names (of which there are none)");
        Checks.no("no names", new NameMerges().lost(Integer.MIN_VALUE));
        NameMerges x = Checks.withNames(1);
        Checks.no("one name", x.lost(Integer.MIN_VALUE));
        Checks.call(x, 0, "abc");
        Checks.call(x, 0, "bc");
        Checks.no("one name is no pair with itself", x.lost(Integer.MIN_VALUE));
        x.name();
        Checks.yes("a name without variants begins with none", x.lost(0));
        Checks.no("and is like none", x.lost(1));
    }
}
