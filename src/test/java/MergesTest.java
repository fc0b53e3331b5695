/** Promises 12 (merge), 13 (part) and 14 (as). */
public final class MergesTest {
    public static void main(String[] args) {
        mergeHoldsFromItsDayOn();
        mergedOverOthers();
        longChains();
        unlikeOnesAreNotMerged();
        onesAreNotMergedAgain();
        oneOnALaterDay();
        betweenTwoMergesAndPartings();
        sixtyMerges();
        mergeRefuses();
        partEndsJustTheseTwo();
        partOfAMergeToldAhead();
        partAgainAndMergeAgain();
        partRefuses();
        asRefuses();
        Checks.end();
    }

    private static void mergeHoldsFromItsDayOn() {
        NameMerges x = Checks.withNames(3);
        Checks.same("merge", x.merge(2, 1, 10), 0);
        Checks.same("a day ahead", x.as(2, 9), 2);
        Checks.same("that day", x.as(2, 10), 1);
        Checks.same("for ever", x.as(2, 100000), 1);
        Checks.same("the least stays", x.as(1, 10), 1);
        Checks.same("another name", x.as(0, 10), 0);
        Checks.same("from the last day on", x.merge(0, 2, 100000), 0);
        Checks.same("the last day but one", x.as(2, 99999), 1);
        Checks.same("the last day", x.as(2, 100000), 0);
        Checks.same("on day 0", Checks.withNames(2).merge(0, 1, 0), 0);
    }

    private static void mergedOverOthers() {
        NameMerges x = Checks.withNames(6);
        x.merge(5, 4, 10);
        x.merge(2, 3, 10);
        x.merge(3, 5, 20);
        Checks.same("two groups", x.as(5, 19), 4);
        Checks.same("one group", x.as(5, 20), 2);
        Checks.same("its other end", x.as(4, 20), 2);
        x.merge(0, 4, 30);
        for (int n = 2; n <= 5; n++) {
            Checks.same("name " + n, x.as(n, 30), 0);
        }
        Checks.same("name 1 is apart", x.as(1, 30), 1);
    }

    private static void longChains() {
        NameMerges x = Checks.withNames(24);
        for (int n = 22; n >= 0; n--) {
            x.merge(n, n + 1, 23 - n);
        }
        for (int day = 0; day <= 23; day++) {
            Checks.same("downwards, day " + day, x.as(23, day), 23 - day);
        }
        NameMerges y = Checks.withNames(24);
        for (int n = 0; n <= 22; n++) {
            y.merge(n, n + 1, 0);
        }
        Checks.same("against the order of the telling", y.as(23, 0), 0);
        y.part(11, 12, 7);
        Checks.same("torn in the middle", y.as(23, 7), 12);
        Checks.same("ahead of that", y.as(23, 6), 0);
        Checks.same("the other half", y.as(11, 7), 0);
    }

    private static void unlikeOnesAreNotMerged() {
        NameMerges x = Checks.withNames(3);
        x.decide(0, 1, 2);
        Checks.same("unlike", x.merge(1, 0, 5), 1);
        Checks.same("nothing is told", x.count(3), 0);
        Checks.same("not merged", x.as(1, 5), 1);
        x.decide(0, 1, 1);
        Checks.same("the same", x.merge(0, 1, 5), 0);
        x.decide(0, 1, 2);
        Checks.same("unlike goes ahead of one", x.merge(0, 1, 5), 1);
        Checks.same("what is merged stays so", x.as(1, 5), 0);
        NameMerges y = Checks.withNames(3);
        y.decide(0, 2, 2);
        y.merge(0, 1, 0);
        Checks.same("only the two themselves are asked", y.merge(1, 2, 0), 0);
    }

    private static void onesAreNotMergedAgain() {
        NameMerges x = Checks.withNames(3);
        x.merge(0, 1, 10);
        Checks.same("that day", x.merge(0, 1, 10), 2);
        Checks.same("later", x.merge(1, 0, 50), 2);
        Checks.same("ahead: they are one later on", x.merge(0, 1, 3), 2);
        x.merge(1, 2, 20);
        Checks.same("over another, from 20 on", x.merge(0, 2, 100000), 2);
        Checks.same("over another, later on", x.merge(0, 2, 0), 2);
        Checks.same("two are told", x.count(3), 2);
        Checks.same("none from 3 on", x.as(1, 3), 1);
    }

    private static void oneOnALaterDay() {
        NameMerges x = Checks.withNames(3);
        x.merge(0, 1, 10);
        x.part(0, 1, 20);
        Checks.same("one on 10 .. 19, asked from 0", x.merge(0, 1, 0), 2);
        Checks.same("asked from 19", x.merge(0, 1, 19), 2);
        Checks.same("asked from 20", x.merge(0, 1, 20), 0);
        NameMerges y = Checks.withNames(2);
        y.merge(0, 1, 100000);
        Checks.same("on the last day alone", y.merge(0, 1, 5), 2);
        NameMerges z = Checks.withNames(2);
        z.merge(0, 1, 6);
        z.part(0, 1, 7);
        Checks.same("on the next day alone", z.merge(0, 1, 5), 2);
        Checks.same("on the day before alone", z.merge(0, 1, 7), 0);
    }

    private static void betweenTwoMergesAndPartings() {
        NameMerges x = Checks.withNames(3);
        x.merge(0, 1, 10);
        x.part(0, 1, 20);
        x.merge(1, 2, 20);
        Checks.same("never at the same time", x.merge(0, 2, 0), 0);
        NameMerges y = Checks.withNames(3);
        y.merge(0, 1, 10);
        y.part(0, 1, 20);
        y.merge(1, 2, 19);
        Checks.same("on one day together", y.merge(0, 2, 0), 2);
        Checks.same("not from then on", y.merge(0, 2, 20), 0);
    }

    private static void sixtyMerges() {
        NameMerges x = Checks.withNames(4);
        for (int i = 0; i < 60; i++) {
            Checks.same("merge " + i, x.merge(0, 1, 2 * i), 0);
            if (i < 59) {
                Checks.yes("part " + i, x.part(0, 1, 2 * i + 1));
            }
        }
        Checks.same("sixty", x.count(3), 60);
        Checks.badState("61", () -> x.merge(2, 3, 500));
        Checks.badState("61, a is b: the state goes first", () -> x.merge(2, 2, 500));
        Checks.badState("61, no day", () -> x.merge(2, 3, -1));
        Checks.badState("61, one already", () -> x.merge(0, 1, 500));
        Checks.noPlace("61, no name: that goes first", () -> x.merge(2, 4, 500));
        Checks.same("the gaps hold", x.as(1, 117), 1);
        Checks.same("the days hold", x.as(1, 116), 0);
        Checks.yes("parting needs no room", x.part(0, 1, 119));
        Checks.badState("parted ones were told too", () -> x.merge(0, 1, 500));
        Checks.same("sixty still", x.count(3), 60);
    }

    private static void mergeRefuses() {
        NameMerges x = Checks.withNames(2);
        Checks.noPlace("no name 2", () -> x.merge(0, 2, 5));
        Checks.noPlace("no name 2 first, no day", () -> x.merge(2, 0, -1));
        Checks.noPlace("no name 2, twice", () -> x.merge(2, 2, 5));
        Checks.noPlace("no name -1", () -> x.merge(-1, 0, 5));
        Checks.badArgument("a is b", () -> x.merge(0, 0, 5));
        Checks.badArgument("day -1", () -> x.merge(0, 1, -1));
        Checks.badArgument("day 100001", () -> x.merge(0, 1, 100001));
        Checks.same("none is told", x.count(3), 0);
        x.decide(0, 1, 2);
        Checks.badArgument("no day, though unlike", () -> x.merge(0, 1, 100001));
    }

    private static void partEndsJustTheseTwo() {
        NameMerges x = Checks.withNames(3);
        x.merge(0, 1, 10);
        x.merge(1, 2, 10);
        Checks.no("one over another is no merge of theirs", x.part(0, 2, 20));
        Checks.yes("in the other order", x.part(1, 0, 20));
        Checks.same("held till then", x.as(2, 19), 0);
        Checks.same("not any more on the day", x.as(2, 20), 1);
        Checks.same("nor later", x.as(1, 100000), 1);
        Checks.same("0 is alone", x.as(0, 20), 0);
        Checks.same("a parted one was told", x.count(3), 2);
    }

    private static void partOfAMergeToldAhead() {
        NameMerges x = Checks.withNames(2);
        x.merge(0, 1, 10);
        Checks.no("on the day of telling", x.part(0, 1, 10));
        Checks.no("ahead of it", x.part(0, 1, 9));
        Checks.same("it holds", x.as(1, 10), 0);
        Checks.yes("the day after", x.part(0, 1, 11));
        Checks.same("one day long", x.as(1, 10), 0);
        Checks.same("over", x.as(1, 11), 1);
        NameMerges y = Checks.withNames(2);
        y.merge(0, 1, 100000);
        Checks.no("told on the last day", y.part(0, 1, 100000));
        NameMerges z = Checks.withNames(2);
        z.merge(0, 1, 99999);
        Checks.yes("parted on the last day", z.part(0, 1, 100000));
        Checks.no("it does not hold for ever", z.part(0, 1, 100000));
        Checks.same("nor on that day", z.as(1, 100000), 1);
    }

    private static void partAgainAndMergeAgain() {
        NameMerges x = Checks.withNames(2);
        x.merge(0, 1, 10);
        x.part(0, 1, 20);
        Checks.no("later again", x.part(0, 1, 30));
        Checks.no("earlier again", x.part(0, 1, 15));
        Checks.same("the end stays", x.as(1, 19), 0);
        x.merge(1, 0, 40);
        Checks.same("between", x.as(1, 30), 1);
        Checks.same("again", x.as(1, 40), 0);
        Checks.yes("the second one ends", x.part(0, 1, 50));
        Checks.same("the first one stays", x.as(1, 19), 0);
        Checks.same("the first end too", x.as(1, 20), 1);
        Checks.same("the second held", x.as(1, 49), 0);
        Checks.same("and ended", x.as(1, 50), 1);
    }

    private static void partRefuses() {
        NameMerges x = Checks.withNames(2);
        x.merge(0, 1, 10);
        Checks.noPlace("no name 2", () -> x.part(0, 2, 20));
        Checks.noPlace("no name 2 first, no day", () -> x.part(2, 0, -1));
        Checks.noPlace("no name -1", () -> x.part(-1, 0, 20));
        Checks.badArgument("day -1", () -> x.part(0, 1, -1));
        Checks.badArgument("day 100001", () -> x.part(0, 1, 100001));
        Checks.no("a name and itself", x.part(0, 0, 20));
        Checks.same("it holds for ever", x.as(1, 100000), 0);
    }

    private static void asRefuses() {
        NameMerges x = Checks.withNames(1);
        Checks.noPlace("no name 1, no day", () -> x.as(1, -1));
        Checks.noPlace("no name -1", () -> x.as(-1, 0));
        Checks.badArgument("day -1", () -> x.as(0, -1));
        Checks.badArgument("day 100001", () -> x.as(0, 100001));
        Checks.same("day 0", x.as(0, 0), 0);
        Checks.same("day 100000", x.as(0, 100000), 0);
    }
}
