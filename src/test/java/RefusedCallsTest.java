import java.util.function.Supplier;

/**
 * "Terms": "Such a call changes nothing." For every way in which the document refuses a call: it
 * throws just that exception, and then all that can be seen of the object is as in its twin, of
 * which the call was not asked. The same for the calls that answer that nothing changes.
 */
public final class RefusedCallsTest {
    private interface CallOn {
        void run(NameMerges x);
    }

    private interface Answer {
        int of(NameMerges x);
    }

    private static final Class<IndexOutOfBoundsException> PLACE = IndexOutOfBoundsException.class;
    private static final Class<IllegalStateException> STATE = IllegalStateException.class;
    private static final Class<IllegalArgumentException> ARGUMENT = IllegalArgumentException.class;

    /** None of the sample's six names; some are one of them in their low bits. */
    private static final int[] NO_NAMES = {
        -1, 6, 7, 23, 24, 31, 32, 37, 64, 256, 65536, Integer.MIN_VALUE, Integer.MAX_VALUE
    };
    private static final int[] NO_DAYS = {-1, 100001, 131082, Integer.MIN_VALUE, Integer.MAX_VALUE};

    public static void main(String[] args) {
        samplesAreAsTheyAreMeant();
        noSuchName();
        noSuchPlace();
        noSuchSet();
        fullOnes();
        emptyPad();
        noSign();
        noLanguageOrDays();
        noDay();
        noPairOrKind();
        noNumber();
        placeThenStateThenArgument();
        answersThatChangeNothing();
        questionsChangeNothing();
        Checks.end();
    }

    private static void refused(Class<? extends RuntimeException> due, String what, Supplier<NameMerges> made, CallOn call) {
        NameMerges x = made.get();
        Checks.refuses(due, what, () -> call.run(x));
        Checks.text("after " + what + ", all", Samples.tell(x), Samples.tell(made.get()));
    }

    private static void place(String what, CallOn call) {
        refused(PLACE, what, Samples::some, call);
    }

    private static void argument(String what, CallOn call) {
        refused(ARGUMENT, what, Samples::some, call);
    }

    private static NameMerges someWithEmptyPad() {
        NameMerges x = Samples.some();
        x.clear();
        return x;
    }

    private static void samplesAreAsTheyAreMeant() {
        Checks.sentence("Samples", "");
        Checks.text("some", counts(Samples.some()), "3 6 5 3 2 3 ");
        Checks.text("full", counts(Samples.full()), "12 24 7 60 2 3 ");
        Checks.takes("a pair is found", () -> Samples.some().candidate(0, 0));
        Checks.takes("two names are found", () -> Samples.some().found(1));
        Checks.takes("a pair is found in the full one", () -> Samples.full().candidate(0, 0));
        Checks.takes("two names are found in the full one", () -> Samples.full().found(1));
    }

    private static String counts(NameMerges x) {
        StringBuilder told = new StringBuilder();
        for (int what = 0; what <= 5; what++) {
            told.append(x.count(what)).append(' ');
        }
        return told.toString();
    }

    private static void noSuchName() {
        Checks.sentence("Terms", "IndexOutOfBoundsException: there is no such name");
        for (int none : NO_NAMES) {
            place("variant of " + none, x -> x.variant(none, 0, 0, 0));
            place("dates of " + none, x -> x.dates(none, 0, 0));
            place("score of " + none, x -> x.score(none, 0));
            place("score with " + none, x -> x.score(0, none));
            place("decide " + none, x -> x.decide(none, 0, 1));
            place("decide with " + none, x -> x.decide(0, none, 1));
            place("merge " + none, x -> x.merge(none, 0, 5));
            place("merge with " + none, x -> x.merge(0, none, 5));
            place("part " + none, x -> x.part(none, 2, 50));
            place("part with " + none, x -> x.part(1, none, 50));
            place("as of " + none, x -> x.as(none, 5));
            place("broader " + none, x -> x.broader(none, 5));
            place("broader than " + none, x -> x.broader(5, none));
            place("covers of " + none, x -> x.covers(none, 0));
            place("covers with " + none, x -> x.covers(0, none));
            place("outside of " + none, x -> x.outside(none, 0, 5));
        }
    }

    private static void noSuchPlace() {
        Checks.sentence("Terms", "IndexOutOfBoundsException: there is no such place");
        int pairs = Samples.some().candidates(3);
        for (int none : new int[] {-1, pairs, pairs + 1, 276, Integer.MIN_VALUE, Integer.MAX_VALUE}) {
            place("candidate " + none + ", side 0", x -> x.candidate(none, 0));
            place("candidate " + none + ", side 1", x -> x.candidate(none, 1));
        }
        for (int side : new int[] {-1, 2, 256, Integer.MIN_VALUE, Integer.MAX_VALUE}) {
            place("candidate 0, side " + side, x -> x.candidate(0, side));
        }
        int names = Samples.some().find(30);
        for (int none : new int[] {-1, names, names + 1, 24, Integer.MIN_VALUE, Integer.MAX_VALUE}) {
            place("found " + none, x -> x.found(none));
        }
        for (int none : new int[] {-1, 6, 7, 256, Integer.MIN_VALUE, Integer.MAX_VALUE}) {
            place("count " + none, x -> x.count(none));
        }
    }

    private static void noSuchSet() {
        Checks.sentence("Terms", "IndexOutOfBoundsException: there is no such set");
        for (int none : new int[] {-1, 4, 5, 256, Integer.MIN_VALUE, Integer.MAX_VALUE}) {
            place("outside in " + none, x -> x.outside(0, none, 5));
            place("whose in " + none, x -> x.whose(none, 7));
        }
    }

    private static void fullOnes() {
        Checks.sentence("Promise 2", "IllegalStateException: there are 12");
        refused(STATE, "unit 13", Samples::full, x -> x.unit('a'));
        Checks.sentence("Promise 4", "IllegalStateException: there are 24");
        refused(STATE, "name 25", Samples::full, x -> x.name());
        Checks.sentence("Promise 5", "IllegalStateException: it has four");
        refused(STATE, "variant 5", Samples::full, x -> x.variant(0, 0, 0, 0));
        Checks.sentence("Promise 12", "IllegalStateException: 60 merges were told");
        refused(STATE, "merge 61", Samples::full, x -> x.merge(4, 23, 5));
        refused(STATE, "merge 61, of ones decided to be unlike", Samples::full, x -> x.merge(3, 4, 5));
        refused(STATE, "merge 61, of ones that are one", Samples::full, x -> x.merge(1, 2, 118));
    }

    private static void emptyPad() {
        Checks.sentence("Promise 5", "IllegalStateException: .. or the pad is empty");
        refused(STATE, "a variant of no signs", RefusedCallsTest::someWithEmptyPad, x -> x.variant(4, 0, 0, 0));
    }

    private static void noSign() {
        Checks.sentence("Promise 2", "IllegalArgumentException: it is none");
        for (int sign : new int[] {96, 123, 0, -1, 65536 + 97, Integer.MIN_VALUE, Integer.MAX_VALUE}) {
            argument("unit " + sign, x -> x.unit(sign));
        }
    }

    private static void noLanguageOrDays() {
        Checks.sentence("Promise 5", "IllegalArgumentException: language, or days (from is above to)");
        for (int language : new int[] {-1, 6, 32, Integer.MIN_VALUE, Integer.MAX_VALUE}) {
            argument("language " + language, x -> x.variant(4, language, 0, 0));
        }
        int[][] noSpans = {{1, 0}, {100000, 99999}, {100000, 0}, {-1, 5}, {-1, -1}, {5, 100001}, {100001, 100001}};
        for (int[] span : noSpans) {
            argument("variant " + span[0] + " .. " + span[1], x -> x.variant(4, 0, span[0], span[1]));
        }
        Checks.sentence("Promise 6", "IllegalArgumentException likewise");
        for (int[] span : noSpans) {
            argument("dates " + span[0] + " .. " + span[1], x -> x.dates(0, span[0], span[1]));
            argument("first dates " + span[0] + " .. " + span[1], x -> x.dates(4, span[0], span[1]));
        }
    }

    private static void noDay() {
        Checks.sentence("Promises 12, 13, 14, 17", "IllegalArgumentException: .. is no day");
        for (int day : NO_DAYS) {
            argument("merge on " + day, x -> x.merge(4, 5, day));
            argument("part on " + day, x -> x.part(1, 2, day));
            argument("as on " + day, x -> x.as(1, day));
            argument("find on " + day, x -> x.find(day));
        }
    }

    private static void noPairOrKind() {
        Checks.sentence("Promise 11", "IllegalArgumentException: a is b, or kind is not 0 .. 2");
        for (int n = 0; n < 6; n++) {
            int each = n;
            argument("decide " + n + " twice", x -> x.decide(each, each, 1));
        }
        for (int kind : new int[] {-1, 3, 4, 256, Integer.MIN_VALUE, Integer.MAX_VALUE}) {
            argument("kind " + kind, x -> x.decide(0, 1, kind));
            argument("kind " + kind + " of a decided pair", x -> x.decide(0, 2, kind));
        }
        Checks.sentence("Promise 12", "IllegalArgumentException: a is b");
        for (int n = 0; n < 6; n++) {
            int each = n;
            argument("merge " + n + " twice", x -> x.merge(each, each, 5));
        }
    }

    private static void noNumber() {
        Checks.sentence("Promise 19", "IllegalArgumentException: number");
        for (int number : new int[] {0, -1, 1000000, Integer.MIN_VALUE, Integer.MAX_VALUE}) {
            argument("number " + number, x -> x.outside(0, 0, number));
            argument("first number " + number, x -> x.outside(5, 1, number));
        }
    }

    private static void placeThenStateThenArgument() {
        Checks.sentence("Terms", "IllegalStateException, then IllegalArgumentException, as told");
        refused(STATE, "full, no sign", Samples::full, x -> x.unit(96));
        refused(STATE, "four variants, no language", Samples::full, x -> x.variant(0, 6, 0, 0));
        refused(STATE, "four variants, no days", Samples::full, x -> x.variant(0, 0, 1, 0));
        refused(STATE, "empty pad, no language", RefusedCallsTest::someWithEmptyPad, x -> x.variant(4, 6, 0, 0));
        refused(STATE, "empty pad, no days", RefusedCallsTest::someWithEmptyPad, x -> x.variant(4, 0, -1, 0));
        refused(STATE, "60 merges, a is b", Samples::full, x -> x.merge(5, 5, 5));
        refused(STATE, "60 merges, no day", Samples::full, x -> x.merge(4, 5, -1));
        Checks.sentence("Terms", "IndexOutOfBoundsException, ahead of the others");
        refused(PLACE, "no name, four variants elsewhere", Samples::full, x -> x.variant(24, 0, 0, 0));
        refused(PLACE, "no name, empty pad", RefusedCallsTest::someWithEmptyPad, x -> x.variant(6, 0, 0, 0));
        refused(PLACE, "no name, 60 merges", Samples::full, x -> x.merge(24, 0, 5));
        refused(PLACE, "no second name, 60 merges, no day", Samples::full, x -> x.merge(0, 24, -1));
        refused(PLACE, "no name twice, 60 merges", Samples::full, x -> x.merge(24, 24, 5));
        place("no name, no language", x -> x.variant(6, 6, 0, 0));
        place("no name, no days: variant", x -> x.variant(-1, 0, 1, 0));
        place("no name, no days: dates", x -> x.dates(6, 1, 0));
        place("no name, no kind", x -> x.decide(6, 0, 3));
        place("no second name, no kind", x -> x.decide(0, 6, 3));
        place("no name twice: decide", x -> x.decide(6, 6, 1));
        place("no name twice: merge", x -> x.merge(-1, -1, 5));
        place("no name, no day: merge", x -> x.merge(6, 0, -1));
        place("no second name, no day: merge", x -> x.merge(0, 6, -1));
        place("no name, no day: part", x -> x.part(6, 0, -1));
        place("no second name, no day: part", x -> x.part(0, 6, -1));
        place("no name, no day: as", x -> x.as(6, 100001));
        place("no name, no number", x -> x.outside(6, 0, 0));
        place("no set, no number", x -> x.outside(0, 4, 0));
        place("no name, no set", x -> x.outside(6, 4, 5));
        argument("unlike, no day", x -> x.merge(3, 4, -1));
        argument("one, no day", x -> x.merge(1, 2, 100001));
    }

    private static void unchanged(String what, int due, Supplier<NameMerges> made, Answer answer) {
        NameMerges x = made.get();
        Checks.same(what, answer.of(x), due);
        Checks.text("after " + what + ", all", Samples.tell(x), Samples.tell(made.get()));
    }

    private static void quiet(String what, int due, Answer answer) {
        unchanged(what, due, Samples::some, answer);
    }

    private static void answersThatChangeNothing() {
        Checks.sentence("Promise 15", "NONE if one would be broader than itself (nothing changes)");
        quiet("itself", NameMerges.NONE, x -> x.broader(5, 5));
        quiet("a ring of two", NameMerges.NONE, x -> x.broader(1, 0));
        quiet("a ring of three", NameMerges.NONE, x -> x.broader(2, 0));
        Checks.sentence("Promise 15", "0 if that was told already");
        quiet("told already", 0, x -> x.broader(0, 1));
        Checks.sentence("Promise 19", "whether no other name has it (else nothing changes)");
        quiet("another's number", 0, x -> x.outside(0, 0, 8) ? 1 : 0);
        quiet("another's number, having none", 0, x -> x.outside(5, 0, 8) ? 1 : 0);
        quiet("its own number", 1, x -> x.outside(0, 0, 7) ? 1 : 0);
        Checks.sentence("Promise 12", "1 if they are decided to be unlike; 2 if they are one on some day from then on");
        quiet("unlike", 1, x -> x.merge(3, 4, 5));
        quiet("one", 2, x -> x.merge(1, 2, 15));
        quiet("one later on", 2, x -> x.merge(0, 2, 0));
        Checks.sentence("Promise 13", "whether there was one");
        quiet("none of these two", 0, x -> x.part(0, 2, 50) ? 1 : 0);
        quiet("told on that day", 0, x -> x.part(1, 2, 15) ? 1 : 0);
        quiet("parted already", 0, x -> x.part(0, 1, 19) ? 1 : 0);
        quiet("a name and itself", 0, x -> x.part(1, 1, 50) ? 1 : 0);
        Checks.sentence("Promise 6", "whether it had others, or none");
        quiet("the same dates", 0, x -> x.dates(0, 10, 20) ? 1 : 0);
        Checks.sentence("Promise 11", "what it was");
        quiet("decided the same way", 2, x -> x.decide(3, 4, 2));
        quiet("not decided, still", 0, x -> x.decide(0, 5, 0));
        Checks.sentence("Promise 3", "how many signs it had");
        unchanged("clear of none", 0, RefusedCallsTest::someWithEmptyPad, x -> x.clear());
    }

    private static void questionsChangeNothing() {
        Checks.sentence("Not promised", "Nothing is promised beyond the answers and state changes described above");
        quiet("score", 15, x -> x.score(2, 2));
        quiet("lost", 1, x -> x.lost(0) ? 1 : 0);
        quiet("candidates again", Samples.some().candidates(3), x -> x.candidates(3));
        quiet("candidate", 1, x -> x.candidate(0, 1) > x.candidate(0, 0) ? 1 : 0);
        quiet("as", 3, x -> x.as(5, 30));
        quiet("covers", 1, x -> x.covers(0, 2) ? 1 : 0);
        quiet("find again (the pad stays)", 2, x -> x.find(30));
        quiet("found", 5, x -> x.found(1));
        quiet("whose", 2, x -> x.whose(3, 999999));
        quiet("whose, of no number", NameMerges.NONE, x -> x.whose(0, 0));
        quiet("count", 6, x -> x.count(1));
    }
}
