/** Promises 11 to 14: each sentence that names a boundary case has a test of its own. */
public final class MergeEdgesTest {
    private static final int LAST_DAY = 100000;

    public static void main(String[] args) {
        decideTellsWhatItWas();
        decideOfNoName();
        decideOfOneName();
        decideOfNoKind();
        mergeFromADayOn();
        mergeOfUnlikeOnes();
        mergeOfOnes();
        mergeOfOnesLaterOn();
        mergeOfOnesNoMore();
        mergeOfNoName();
        mergeBeyondThem();
        mergeOfOneName();
        mergeOnNoDay();
        partOfJustTheseTwo();
        partInAnyOrder();
        partOfOneThatHoldsForEver();
        partOfOneToldAhead();
        partWhereThereIsNone();
        partOfNoName();
        partOnNoDay();
        asOnADay();
        asOfNoName();
        asOnNoDay();
        Checks.end();
    }

    private static void decideTellsWhatItWas() {
        Checks.sentence("Promise 11", "A pair is decided, or not any more: what it was");
        int[] kinds = {0, 1, 1, 2, 2, 0, 0, 2, 1, 0};
        NameMerges x = Checks.withNames(2);
        int before = 0;
        for (int kind : kinds) {
            Checks.same("decide " + kind, x.decide(before % 2, 1 - before % 2, kind), before);
            Checks.same("pairs decided", x.count(4), kind == 0 ? 0 : 1);
            before = kind;
        }
        NameMerges y = Checks.withNames(24);
        y.decide(0, 23, 1);
        y.decide(22, 23, 2);
        Checks.same("first and last", y.decide(23, 0, 0), 1);
        Checks.same("the last two", y.decide(23, 22, 0), 2);
    }

    private static void decideOfNoName() {
        Checks.sentence("Promise 11", "IndexOutOfBoundsException");
        NameMerges x = Checks.withNames(2);
        for (int none : new int[] {-1, 2, 24, 32, Integer.MIN_VALUE, Integer.MAX_VALUE}) {
            Checks.noPlace("first " + none, () -> x.decide(none, 1, 1));
            Checks.noPlace("second " + none, () -> x.decide(1, none, 1));
            Checks.noPlace("both " + none, () -> x.decide(none, none, 1));
        }
        Checks.same("none is decided", x.count(4), 0);
    }

    private static void decideOfOneName() {
        Checks.sentence("Promise 11", "IllegalArgumentException: a is b");
        NameMerges x = Checks.withNames(24);
        for (int n = 0; n < 24; n++) {
            int each = n;
            for (int kind = 0; kind <= 2; kind++) {
                int one = kind;
                Checks.badArgument(n + ", kind " + kind, () -> x.decide(each, each, one));
            }
        }
        Checks.same("none is decided", x.count(4), 0);
    }

    private static void decideOfNoKind() {
        Checks.sentence("Promise 11", "IllegalArgumentException: .. or kind is not 0 .. 2");
        NameMerges x = Checks.withNames(2);
        x.decide(0, 1, 1);
        for (int kind : new int[] {-1, 3, 4, Integer.MIN_VALUE, Integer.MAX_VALUE}) {
            Checks.badArgument("kind " + kind, () -> x.decide(0, 1, kind));
        }
        Checks.same("it stays", x.decide(0, 1, 2), 1);
    }

    private static void mergeFromADayOn() {
        Checks.sentence("Promise 12", "Two names are merged from a day on: 0");
        for (int day : new int[] {0, 1, 500, 99999, LAST_DAY}) {
            NameMerges x = Checks.withNames(2);
            Checks.same("on " + day, x.merge(1, 0, day), 0);
            Checks.same("that day", x.as(1, day), 0);
            Checks.same("the day before", day == 0 ? 1 : x.as(1, day - 1), 1);
            Checks.same("merges told", x.count(3), 1);
        }
    }

    private static void mergeOfUnlikeOnes() {
        Checks.sentence("Promise 12", "1 if they are decided to be unlike");
        NameMerges x = Checks.withNames(3);
        x.decide(1, 0, 2);
        Checks.same("in this order", x.merge(0, 1, 5), 1);
        Checks.same("in the other order", x.merge(1, 0, 5), 1);
        Checks.same("none is told", x.count(3), 0);
        Checks.same("they are not one", x.as(1, 5), 1);
        Checks.same("another pair", x.merge(1, 2, 5), 0);
        x.decide(0, 1, 1);
        Checks.same("decided to be the same", x.merge(0, 1, 5), 0);
        x.decide(0, 1, 2);
        Checks.same("unlike, and one already", x.merge(0, 1, 5), 1);
        Checks.same("what was told stays", x.as(1, 5), 0);
        x.decide(0, 1, 0);
        Checks.same("not decided any more", x.merge(0, 1, 5), 2);
    }

    private static void mergeOfOnes() {
        Checks.sentence("Promise 12", "2 if they are one (on that day)");
        NameMerges x = Checks.withNames(3);
        x.merge(0, 1, 10);
        Checks.same("on the day of telling", x.merge(0, 1, 10), 2);
        Checks.same("the other way round", x.merge(1, 0, 10), 2);
        Checks.same("later", x.merge(0, 1, 11), 2);
        Checks.same("on the last day", x.merge(0, 1, LAST_DAY), 2);
        x.merge(1, 2, 20);
        Checks.same("over another", x.merge(0, 2, 20), 2);
        Checks.same("none is told", x.count(3), 2);
    }

    private static void mergeOfOnesLaterOn() {
        Checks.sentence("Promise 12", "2 if they are one on some day from then on");
        NameMerges x = Checks.withNames(3);
        x.merge(0, 1, 10);
        Checks.same("from the next day on", x.merge(0, 1, 9), 2);
        Checks.same("from later on", x.merge(0, 1, 0), 2);
        x.merge(1, 2, 10);
        Checks.same("over another, from the next day on", x.merge(0, 2, 9), 2);
        NameMerges y = Checks.withNames(2);
        y.merge(0, 1, 50);
        y.part(0, 1, 51);
        Checks.same("on one day alone, which is then", y.merge(0, 1, 50), 2);
        Checks.same("on one day alone, the next", y.merge(0, 1, 49), 2);
        Checks.same("on one day alone, much later", y.merge(0, 1, 0), 2);
        NameMerges z = Checks.withNames(2);
        z.merge(0, 1, LAST_DAY);
        Checks.same("on the last day alone", z.merge(0, 1, 0), 2);
        NameMerges w = Checks.withNames(3);
        w.merge(0, 1, 10);
        w.part(0, 1, 20);
        w.merge(1, 2, 19);
        Checks.same("over two that meet on one day", w.merge(0, 2, 0), 2);
        Checks.same("on that day", w.merge(0, 2, 19), 2);
    }

    private static void mergeOfOnesNoMore() {
        Checks.sentence("Promise 12", "0 (they were one, but on no day from then on)");
        NameMerges x = Checks.withNames(2);
        x.merge(0, 1, 10);
        x.part(0, 1, 20);
        Checks.same("on the day of parting", x.merge(0, 1, 20), 0);
        Checks.same("merges told", x.count(3), 2);
        NameMerges y = Checks.withNames(3);
        y.merge(0, 1, 10);
        y.part(0, 1, 20);
        y.merge(1, 2, 20);
        Checks.same("over two that never meet", y.merge(0, 2, 0), 0);
        NameMerges z = Checks.withNames(2);
        z.merge(0, 1, 99999);
        z.part(0, 1, LAST_DAY);
        Checks.same("on the last day", z.merge(0, 1, LAST_DAY), 0);
    }

    private static void mergeOfNoName() {
        Checks.sentence("Promise 12", "IndexOutOfBoundsException");
        NameMerges x = Checks.withNames(2);
        for (int none : new int[] {-1, 2, 24, 32, Integer.MIN_VALUE, Integer.MAX_VALUE}) {
            Checks.noPlace("first " + none, () -> x.merge(none, 1, 5));
            Checks.noPlace("second " + none, () -> x.merge(1, none, 5));
            Checks.noPlace("both " + none, () -> x.merge(none, none, 5));
        }
        Checks.same("none is told", x.count(3), 0);
    }

    private static void mergeBeyondThem() {
        Checks.sentence("Promise 12", "IllegalStateException: 60 merges were told");
        NameMerges x = Checks.withNames(4);
        x.decide(2, 3, 2);
        for (int i = 0; i < 60; i++) {
            Checks.same("unlike ones are not told", x.merge(2, 3, 0), 1);
            Checks.same("merge " + (i + 1), x.merge(0, 1, 2 * i), 0);
            Checks.same("ones are not told again", i < 59 ? x.merge(0, 1, 2 * i) : 2, 2);
            Checks.yes("parted ones were told", x.part(0, 1, 2 * i + 1));
        }
        Checks.same("merges told", x.count(3), 60);
        Checks.badState("one more", () -> x.merge(0, 1, 200));
        Checks.badState("of others", () -> x.merge(1, 2, 0));
        Checks.badState("of unlike ones", () -> x.merge(2, 3, 0));
        Checks.badState("of ones", () -> x.merge(0, 1, 0));
        Checks.same("merges told, still", x.count(3), 60);
    }

    private static void mergeOfOneName() {
        Checks.sentence("Promise 12", "IllegalArgumentException: a is b");
        NameMerges x = Checks.withNames(24);
        for (int n = 0; n < 24; n++) {
            int each = n;
            Checks.badArgument("name " + n, () -> x.merge(each, each, 5));
        }
        Checks.same("none is told", x.count(3), 0);
    }

    private static void mergeOnNoDay() {
        Checks.sentence("Promise 12", "IllegalArgumentException: .. or told is no day");
        NameMerges x = Checks.withNames(2);
        for (int day : new int[] {-1, 100001, Integer.MIN_VALUE, Integer.MAX_VALUE}) {
            Checks.badArgument("on " + day, () -> x.merge(0, 1, day));
        }
        Checks.same("none is told", x.count(3), 0);
    }

    private static void partOfJustTheseTwo() {
        Checks.sentence("Promise 13", "A merge of just these two");
        NameMerges x = Checks.withNames(4);
        x.merge(0, 1, 10);
        x.merge(1, 2, 10);
        x.merge(2, 3, 10);
        Checks.no("one over another", x.part(0, 2, 20));
        Checks.no("one over others", x.part(0, 3, 20));
        Checks.yes("these two", x.part(1, 2, 20));
        Checks.same("the one half", x.as(1, 20), 0);
        Checks.same("the other half", x.as(3, 20), 2);
        Checks.same("the day before", x.as(3, 19), 0);
    }

    private static void partInAnyOrder() {
        Checks.sentence("Promise 13", "(in any order)");
        for (int order = 0; order < 4; order++) {
            int a = order % 2;
            int b = order / 2;
            NameMerges x = Checks.withNames(2);
            x.merge(a, 1 - a, 10);
            Checks.yes("merged " + a + ", parted " + b, x.part(b, 1 - b, 20));
            Checks.same("on that day", x.as(1, 20), 1);
        }
    }

    private static void partOfOneThatHoldsForEver() {
        Checks.sentence("Promise 13", "that holds for ever");
        NameMerges x = Checks.withNames(2);
        x.merge(0, 1, 10);
        x.part(0, 1, 20);
        Checks.no("earlier", x.part(0, 1, 15));
        Checks.no("the same day", x.part(0, 1, 20));
        Checks.no("later", x.part(0, 1, 30));
        Checks.same("it held till the day before", x.as(1, 19), 0);
        Checks.same("and no longer", x.as(1, 20), 1);
        x.merge(0, 1, 25);
        Checks.no("the second was not told ahead of it", x.part(0, 1, 22));
        Checks.yes("the second one holds for ever", x.part(0, 1, 30));
        Checks.same("the first one stays", x.as(1, 19), 0);
        Checks.same("between both", x.as(1, 24), 1);
        Checks.same("the second one's last day", x.as(1, 29), 0);
        Checks.same("its end", x.as(1, 30), 1);
        NameMerges y = Checks.withNames(2);
        y.merge(0, 1, 0);
        Checks.yes("till the last day", y.part(0, 1, LAST_DAY));
        Checks.no("is not for ever", y.part(0, 1, LAST_DAY));
    }

    private static void partOfOneToldAhead() {
        Checks.sentence("Promise 13", "and was told ahead of that day ends on it");
        NameMerges x = Checks.withNames(2);
        x.merge(0, 1, 10);
        Checks.no("the day before", x.part(0, 1, 9));
        Checks.no("on its day", x.part(0, 1, 10));
        Checks.same("it holds", x.as(1, LAST_DAY), 0);
        Checks.yes("the day after", x.part(0, 1, 11));
        Checks.same("one day long", x.as(1, 10), 0);
        Checks.same("ended", x.as(1, 11), 1);
        NameMerges y = Checks.withNames(2);
        y.merge(0, 1, 0);
        Checks.no("on the first day", y.part(0, 1, 0));
        NameMerges z = Checks.withNames(2);
        z.merge(0, 1, LAST_DAY);
        Checks.no("on the last day", z.part(0, 1, LAST_DAY));
        Checks.same("it holds then", z.as(1, LAST_DAY), 0);
    }

    private static void partWhereThereIsNone() {
        Checks.sentence("Promise 13", "whether there was one");
        NameMerges x = Checks.withNames(3);
        Checks.no("no merges", x.part(0, 1, 50));
        Checks.no("a name and itself", x.part(0, 0, 50));
        x.merge(0, 1, 10);
        Checks.no("others", x.part(0, 2, 50));
        Checks.no("a merged one and itself", x.part(1, 1, 50));
        Checks.same("the merge holds", x.as(1, LAST_DAY), 0);
    }

    private static void partOfNoName() {
        Checks.sentence("Promise 13", "IndexOutOfBoundsException");
        NameMerges x = Checks.withNames(2);
        x.merge(0, 1, 10);
        for (int none : new int[] {-1, 2, 24, 32, 33, Integer.MIN_VALUE, Integer.MAX_VALUE}) {
            Checks.noPlace("first " + none, () -> x.part(none, 1, 50));
            Checks.noPlace("second " + none, () -> x.part(0, none, 50));
            Checks.noPlace("both " + none, () -> x.part(none, none, 50));
        }
        Checks.same("it holds", x.as(1, LAST_DAY), 0);
    }

    private static void partOnNoDay() {
        Checks.sentence("Promise 13", "IllegalArgumentException: told is no day");
        NameMerges x = Checks.withNames(2);
        x.merge(0, 1, 10);
        for (int day : new int[] {-1, 100001, Integer.MIN_VALUE, Integer.MAX_VALUE}) {
            Checks.badArgument("on " + day, () -> x.part(0, 1, day));
            Checks.badArgument("a name and itself, on " + day, () -> x.part(0, 0, day));
        }
        Checks.same("it holds", x.as(1, LAST_DAY), 0);
    }

    private static void asOnADay() {
        Checks.sentence("Promise 14", "The number of a name on a day");
        NameMerges x = Checks.withNames(24);
        for (int n = 0; n < 24; n++) {
            Checks.same("alone on the first day", x.as(n, 0), n);
            Checks.same("alone on the last day", x.as(n, LAST_DAY), n);
        }
        for (int n = 23; n > 0; n--) {
            x.merge(n, n - 1, 24 - n);
        }
        for (int day = 0; day < 24; day++) {
            Checks.same("the last name on " + day, x.as(23, day), 23 - day);
            Checks.same("the first name on " + day, x.as(0, day), 0);
        }
    }

    private static void asOfNoName() {
        Checks.sentence("Promise 14", "IndexOutOfBoundsException");
        NameMerges x = Checks.withNames(2);
        for (int none : new int[] {-1, 2, 24, 32, Integer.MIN_VALUE, Integer.MAX_VALUE}) {
            Checks.noPlace("name " + none, () -> x.as(none, 0));
        }
    }

    private static void asOnNoDay() {
        Checks.sentence("Promise 14", "IllegalArgumentException: on is no day");
        NameMerges x = Checks.withNames(2);
        for (int day : new int[] {-1, 100001, Integer.MIN_VALUE, Integer.MAX_VALUE}) {
            Checks.badArgument("on " + day, () -> x.as(0, day));
        }
    }
}
