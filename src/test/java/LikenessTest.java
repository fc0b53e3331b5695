/** Promises 7 (score), 8 (candidates), 9 (candidate) and 10 (lost). */
public final class LikenessTest {
    public static void main(String[] args) {
        pointsOfTexts();
        mostPointsOfVariants();
        languagesAdd();
        datesAddOrTake();
        scoreRefuses();
        candidatesByLikeness();
        candidatesNeitherDecidedNorOne();
        candidatesOfAllNames();
        candidateRefuses();
        candidatesStayAsFound();
        lostNeedsOtherBeginnings();
        lostOfNamesWithoutVariants();
        Checks.end();
    }

    /** Two languages, so that the texts alone count. */
    private static int points(String a, String b) {
        NameMerges x = Checks.withNames(2);
        Checks.call(x, 0, a, 1);
        Checks.call(x, 1, b, 2);
        Checks.same("the other way round", x.score(1, 0), x.score(0, 1));
        return x.score(0, 1);
    }

    private static void pointsOfTexts() {
        Checks.same("the same sign", points("a", "a"), 10);
        Checks.same("unlike signs", points("a", "b"), 0);
        Checks.same("the same twelve", points("abcdefghijkl", "abcdefghijkl"), 10);
        Checks.same("20 * 1 / 13", points("l", "abcdefghijkl"), 1);
        Checks.same("20 * 2 / 5", points("abc", "ac"), 8);
        Checks.same("20 * 2 / 7: the rest falls", points("abc", "bcab"), 5);
        Checks.same("order counts: 20 * 1 / 4", points("ab", "ba"), 5);
        Checks.same("gaps on both sides: 20 * 3 / 10", points("axbyc", "uavbc"), 6);
        Checks.same("a sign is used once: 20 * 1 / 4", points("aaa", "a"), 5);
        Checks.same("not the first fit: 20 * 3 / 7", points("abcd", "bcd"), 8);
        Checks.same("kitten, sitting: 20 * 4 / 13", points("kitten", "sitting"), 6);
        Checks.same("reversed: 20 * 1 / 24", points("abcdefghijkl", "lkjihgfedcba"), 0);
    }

    private static void mostPointsOfVariants() {
        NameMerges x = Checks.withNames(3);
        Checks.call(x, 0, "zzz", 0);
        Checks.call(x, 0, "abcd", 1);
        Checks.call(x, 0, "q", 0);
        Checks.call(x, 1, "k", 2);
        Checks.call(x, 1, "m", 2);
        Checks.call(x, 1, "n", 2);
        Checks.same("none alike", x.score(0, 1), 0);
        Checks.call(x, 1, "abc", 3);
        Checks.same("the best of all: 20 * 3 / 7", x.score(0, 1), 8);
        Checks.same("one has none", x.score(0, 2), 0);
        Checks.same("both have none", x.score(2, 2), 0);
        Checks.same("a name and itself", x.score(0, 0), 12);
    }

    private static void languagesAdd() {
        NameMerges x = Checks.withNames(2);
        Checks.call(x, 0, "ab", 4);
        Checks.call(x, 1, "ab", 5);
        Checks.same("no language together", x.score(0, 1), 10);
        Checks.call(x, 0, "z", 5);
        Checks.same("of any variants, not of the most like ones", x.score(0, 1), 12);
        Checks.call(x, 1, "z", 4);
        Checks.same("two together count once", x.score(0, 1), 12);
    }

    private static void datesAddOrTake() {
        NameMerges x = Checks.withNames(3);
        Checks.call(x, 0, "ab", 0);
        Checks.call(x, 1, "ab", 1);
        x.dates(0, 10, 20);
        Checks.same("one has dates", x.score(0, 1), 10);
        int[][] spans = {{20, 30, 13}, {21, 30, 5}, {0, 10, 13}, {0, 9, 5}, {12, 13, 13}, {0, 100000, 13}};
        for (int[] span : spans) {
            x.dates(1, span[0], span[1]);
            Checks.same("dates " + span[0] + " .. " + span[1], x.score(0, 1), span[2]);
            Checks.same("the other way round", x.score(1, 0), span[2]);
        }
        x.dates(2, 50, 60);
        Checks.same("dates apart, without variants", x.score(0, 2), -5);
        x.dates(2, 15, 60);
        Checks.same("dates together, without variants", x.score(0, 2), 3);
        Checks.same("a name and itself: 10 + 2 + 3", x.score(0, 0), 15);
    }

    private static void scoreRefuses() {
        NameMerges x = Checks.withNames(2);
        Checks.noPlace("score(0, 2)", () -> x.score(0, 2));
        Checks.noPlace("score(2, 0)", () -> x.score(2, 0));
        Checks.noPlace("score(-1, 0)", () -> x.score(-1, 0));
        Checks.noPlace("score(0, -1)", () -> x.score(0, -1));
        Checks.noPlace("score(0, MAX)", () -> x.score(0, Integer.MAX_VALUE));
    }

    /** Likeness: 0-1 12, 0-2 10, 1-2 10, all with 3 0. */
    private static NameMerges four() {
        NameMerges x = Checks.withNames(4);
        Checks.call(x, 0, "ab", 1);
        Checks.call(x, 1, "ab", 1);
        Checks.call(x, 2, "ab", 2);
        return x;
    }

    private static void candidatesByLikeness() {
        NameMerges x = four();
        Checks.text("at least 13", Checks.candidatePairs(x, 13), "");
        Checks.text("at least 12", Checks.candidatePairs(x, 12), "0-1");
        Checks.text("at least 11", Checks.candidatePairs(x, 11), "0-1");
        Checks.text("at least 10", Checks.candidatePairs(x, 10), "0-1 0-2 1-2");
        Checks.text("at least 0", Checks.candidatePairs(x, 0), "0-1 0-2 0-3 1-2 1-3 2-3");
        Checks.same("least of all", x.candidates(Integer.MIN_VALUE), 6);
        Checks.same("most of all", x.candidates(Integer.MAX_VALUE), 0);
        x.dates(2, 0, 1);
        x.dates(3, 2, 3);
        Checks.text("-5 is below -4", Checks.candidatePairs(x, -4), "0-1 0-2 0-3 1-2 1-3");
        Checks.same("-5 is at least -5", x.candidates(-5), 6);
    }

    private static void candidatesNeitherDecidedNorOne() {
        NameMerges x = four();
        x.decide(1, 0, 1);
        x.decide(0, 2, 2);
        Checks.text("decided either way", Checks.candidatePairs(x, 1), "1-2");
        x.decide(0, 1, 0);
        Checks.text("not any more", Checks.candidatePairs(x, 1), "0-1 1-2");
        x.merge(0, 3, 100000);
        x.merge(3, 1, 5);
        Checks.text("one over another, from the last day on", Checks.candidatePairs(x, 0), "1-2 2-3");
        x.part(3, 1, 100000);
        Checks.text("parted on the last day", Checks.candidatePairs(x, 0), "0-1 1-2 1-3 2-3");
    }

    private static void candidatesOfAllNames() {
        NameMerges x = Checks.withNames(24);
        Checks.same("all pairs of 24", x.candidates(0), 276);
        Checks.same("first", x.candidate(0, 0) * 100 + x.candidate(0, 1), 1);
        Checks.same("last of name 0", x.candidate(22, 0) * 100 + x.candidate(22, 1), 23);
        Checks.same("first of name 1", x.candidate(23, 0) * 100 + x.candidate(23, 1), 102);
        Checks.same("last", x.candidate(275, 0) * 100 + x.candidate(275, 1), 2223);
        Checks.noPlace("none behind", () -> x.candidate(276, 0));
    }

    private static void candidateRefuses() {
        NameMerges x = four();
        Checks.noPlace("nothing was looked for", () -> x.candidate(0, 0));
        x.candidates(10);
        Checks.noPlace("k -1", () -> x.candidate(-1, 0));
        Checks.noPlace("k 3", () -> x.candidate(3, 0));
        Checks.noPlace("k 3, side 1", () -> x.candidate(3, 1));
        Checks.noPlace("side 2", () -> x.candidate(0, 2));
        Checks.noPlace("side -1", () -> x.candidate(0, -1));
        Checks.same("the last pair", x.candidate(2, 1), 2);
        x.candidates(12);
        Checks.noPlace("fewer were found latest", () -> x.candidate(1, 0));
    }

    private static void candidatesStayAsFound() {
        NameMerges x = four();
        x.candidates(10);
        x.decide(0, 1, 2);
        x.merge(0, 2, 0);
        x.find(0);
        x.lost(0);
        Checks.same("first pair", x.candidate(0, 0) * 10 + x.candidate(0, 1), 1);
        Checks.same("third pair", x.candidate(2, 0) * 10 + x.candidate(2, 1), 12);
    }

    private static void lostNeedsOtherBeginnings() {
        NameMerges x = Checks.withNames(2);
        Checks.call(x, 0, "abc", 1);
        Checks.call(x, 1, "bc", 2);
        Checks.yes("8 is at least 8", x.lost(8));
        Checks.no("8 is not 9", x.lost(9));
        x.merge(0, 1, 0);
        x.decide(0, 1, 1);
        Checks.yes("one, and decided, all the same", x.lost(8));
        Checks.call(x, 1, "z", 2);
        Checks.yes("another beginning of neither", x.lost(8));
        Checks.call(x, 0, "zq", 1);
        Checks.no("second variants begin alike", x.lost(Integer.MIN_VALUE));
        Checks.call(x, 1, "y", 2);
        Checks.no("earlier variants still do", x.lost(Integer.MIN_VALUE));
    }

    private static void lostOfNamesWithoutVariants() {
        NameMerges x = Checks.withNames(1);
        Checks.no("one name is no pair", x.lost(Integer.MIN_VALUE));
        Checks.call(x, 0, "abc", 1);
        Checks.no("nor with a variant", x.lost(0));
        x.name();
        Checks.yes("none begins with a sign of the other", x.lost(0));
        Checks.no("but the likeness is 0", x.lost(1));
        x.dates(0, 1, 2);
        x.dates(1, 2, 3);
        Checks.yes("3 by dates", x.lost(3));
        Checks.no("3 is not 4", x.lost(4));
    }
}
