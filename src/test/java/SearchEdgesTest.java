/** Promises 15 to 21: each sentence that names a boundary case has a test of its own. */
public final class SearchEdgesTest {
    private static final int LAST_DAY = 100000;

    public static void main(String[] args) {
        broaderIsNew();
        broaderToldAlready();
        broaderThanItself();
        broaderOfNoName();
        coversOverAnyOthers();
        coversNotItself();
        coversOfNoName();
        findOnesOfThatDay();
        findVariantsInForce();
        findJustThePad();
        findWithAnEmptyPad();
        findOnNoDay();
        foundLatest();
        foundByNumbers();
        foundBeyondThem();
        outsideInPlaceOfAnother();
        outsideOfAnotherName();
        outsideOfNoNameOrSet();
        outsideOfNoNumber();
        whoseNumber();
        whoseNone();
        whoseInNoSet();
        countSigns();
        countNames();
        countVariants();
        countMerges();
        countDecided();
        countBroader();
        countOfNoneOfThese();
        Checks.end();
    }

    private static void broaderIsNew() {
        Checks.sentence("Promise 15", "A name is broader than another one: 1");
        NameMerges x = Checks.withNames(24);
        Checks.same("first and last", x.broader(0, 23), 1);
        Checks.same("last and another", x.broader(23, 5), 1);
        Checks.same("covered, but not told", x.broader(0, 5), 1);
        Checks.yes("it covers then", x.covers(0, 5));
    }

    private static void broaderToldAlready() {
        Checks.sentence("Promise 15", "0 if that was told already");
        NameMerges x = Checks.withNames(3);
        x.broader(0, 1);
        Checks.same("again", x.broader(0, 1), 0);
        Checks.same("and again", x.broader(0, 1), 0);
        x.broader(1, 2);
        Checks.same("over another it was not told", x.broader(0, 2), 1);
        Checks.same("now it was", x.broader(0, 2), 0);
        Checks.same("pairs", x.count(5), 3);
    }

    private static void broaderThanItself() {
        Checks.sentence("Promise 15", "NONE if one would be broader than itself (nothing changes)");
        for (int length = 1; length <= 24; length++) {
            NameMerges x = Checks.withNames(24);
            for (int n = 0; n + 1 < length; n++) {
                x.broader(n, n + 1);
            }
            Checks.same("a ring of " + length, x.broader(length - 1, 0), NameMerges.NONE);
            Checks.same("pairs", x.count(5), length - 1);
            Checks.no("the last covers none", x.covers(length - 1, 0));
        }
        NameMerges y = Checks.withNames(4);
        y.broader(0, 1);
        y.broader(2, 3);
        y.broader(1, 2);
        Checks.same("a ring over chains that were joined", y.broader(3, 0), NameMerges.NONE);
        Checks.same("the other way there is none", y.broader(0, 3), 1);
    }

    private static void broaderOfNoName() {
        Checks.sentence("Promise 15", "IndexOutOfBoundsException");
        NameMerges x = Checks.withNames(2);
        for (int none : new int[] {-1, 2, 24, 32, Integer.MIN_VALUE, Integer.MAX_VALUE}) {
            Checks.noPlace("first " + none, () -> x.broader(none, 1));
            Checks.noPlace("second " + none, () -> x.broader(1, none));
            Checks.noPlace("both " + none, () -> x.broader(none, none));
        }
        Checks.same("none is told", x.count(5), 0);
    }

    private static void coversOverAnyOthers() {
        Checks.sentence("Promise 16", "Whether a name is broader than another one, over any others");
        for (int step : new int[] {1, 5, 22}) {
            NameMerges x = Checks.withNames(18);
            for (int i = 0; i < 17; i++) {
                int link = i * step % 17;
                x.broader(link, link + 1);
            }
            for (int a = 0; a < 18; a++) {
                for (int b = 0; b < 18; b++) {
                    Checks.same(a + " covers " + b, x.covers(a, b) ? 1 : 0, a < b ? 1 : 0);
                }
            }
        }
        NameMerges y = Checks.withNames(24);
        y.broader(23, 22);
        Checks.yes("the last two", y.covers(23, 22));
        Checks.no("not the other way", y.covers(22, 23));
        Checks.no("no others", y.covers(23, 0));
        y.merge(0, 22, 0);
        Checks.no("nor ones that are one with it", y.covers(23, 0));
    }

    private static void coversNotItself() {
        Checks.sentence("Promise 16", "another one");
        NameMerges x = Checks.withNames(2);
        Checks.no("itself", x.covers(0, 0));
        x.broader(0, 1);
        Checks.no("itself, being broader", x.covers(0, 0));
        Checks.no("itself, being narrower", x.covers(1, 1));
    }

    private static void coversOfNoName() {
        Checks.sentence("Promise 16", "IndexOutOfBoundsException");
        NameMerges x = Checks.withNames(2);
        x.broader(0, 1);
        for (int none : new int[] {-1, 2, 24, 32, 33, Integer.MIN_VALUE, Integer.MAX_VALUE}) {
            Checks.noPlace("first " + none, () -> x.covers(none, 1));
            Checks.noPlace("second " + none, () -> x.covers(0, none));
            Checks.noPlace("both " + none, () -> x.covers(none, none));
        }
    }

    private static void findOnesOfThatDay() {
        Checks.sentence("Promise 17", "all names that are, on a day, one with some name");
        NameMerges x = Checks.withNames(24);
        x.merge(23, 0, 10);
        x.part(0, 23, 20);
        Checks.call(x, 23, "a");
        x.unit('a');
        Checks.text("the day before", Checks.foundNames(x, 9), "23");
        Checks.text("the day of the merge", Checks.foundNames(x, 10), "0 23");
        Checks.text("the day before the parting", Checks.foundNames(x, 19), "0 23");
        Checks.text("the day of the parting", Checks.foundNames(x, 20), "23");
        x.merge(0, 12, 5);
        Checks.text("over another", Checks.foundNames(x, 10), "0 12 23");
        Checks.text("not without it", Checks.foundNames(x, 9), "23");
    }

    private static void findVariantsInForce() {
        Checks.sentence("Promise 17", "of which a variant in force then");
        NameMerges x = Checks.withNames(3);
        x.unit('a');
        x.variant(0, 0, 10, 20);
        x.unit('a');
        x.variant(1, 0, 20, 30);
        x.unit('a');
        Checks.text("a day ahead of the first", Checks.foundNames(x, 9), "");
        Checks.text("its first day", Checks.foundNames(x, 10), "0");
        Checks.text("its last day, the second's first", Checks.foundNames(x, 20), "0 1");
        Checks.text("a day later", Checks.foundNames(x, 21), "1");
        Checks.text("the second's last day", Checks.foundNames(x, 30), "1");
        Checks.text("a day behind", Checks.foundNames(x, 31), "");
        x.merge(0, 2, 0);
        Checks.text("one with it, not in force", Checks.foundNames(x, 9), "");
        Checks.text("one with it, in force", Checks.foundNames(x, 10), "0 2");
    }

    private static void findJustThePad() {
        Checks.sentence("Promise 17", "is just the pad (which stays): how many");
        NameMerges x = Checks.withNames(4);
        Checks.call(x, 0, "abcdefghijk");
        Checks.call(x, 1, "abcdefghijkl");
        Checks.call(x, 2, "bcdefghijkl");
        Checks.call(x, 3, "abcdefghijkm");
        Checks.write(x, "abcdefghijkl");
        Checks.text("just the pad", Checks.foundNames(x, 5), "1");
        Checks.same("the pad stays", x.count(0), 12);
        Checks.text("asked again", Checks.foundNames(x, 5), "1");
        x.clear();
        Checks.write(x, "abcdefghijk");
        Checks.text("shorter by the last sign", Checks.foundNames(x, 5), "0");
        x.clear();
        x.unit('a');
        Checks.text("the first sign alone", Checks.foundNames(x, 5), "");
    }

    private static void findWithAnEmptyPad() {
        Checks.sentence("Promise 17", "just the pad (an empty one is no variant)");
        NameMerges x = Checks.withNames(2);
        Checks.same("no variants", x.find(0), 0);
        Checks.call(x, 0, "a");
        Checks.same("variants", x.find(0), 0);
        Checks.noPlace("none is found", () -> x.found(0));
    }

    private static void findOnNoDay() {
        Checks.sentence("Promise 17", "IllegalArgumentException: on is no day");
        NameMerges x = Checks.withNames(1);
        Checks.call(x, 0, "a");
        x.unit('a');
        Checks.same("day 0", x.find(0), 1);
        for (int day : new int[] {-1, 100001, Integer.MIN_VALUE, Integer.MAX_VALUE}) {
            Checks.badArgument("on " + day, () -> x.find(day));
            Checks.same("what was found stays", x.found(0), 0);
        }
        Checks.same("the last day", x.find(LAST_DAY), 1);
        x.clear();
        Checks.badArgument("with an empty pad", () -> x.find(-1));
        Checks.badArgument("without names", () -> new NameMerges().find(100001));
    }

    private static void foundLatest() {
        Checks.sentence("Promise 18", "Name k of those that were found latest");
        NameMerges x = Checks.withNames(3);
        Checks.call(x, 1, "a");
        Checks.call(x, 2, "a");
        x.unit('a');
        x.find(5);
        x.clear();
        x.merge(0, 1, 0);
        x.name();
        Checks.call(x, 3, "a");
        Checks.same("what changes later does not count", x.found(0), 1);
        Checks.same("the second", x.found(1), 2);
        Checks.noPlace("no third", () -> x.found(2));
        x.unit('a');
        Checks.text("looked for again", Checks.foundNames(x, 5), "0 1 2 3");
        x.unit('a');
        x.find(5);
        Checks.noPlace("none was found latest", () -> x.found(0));
    }

    private static void foundByNumbers() {
        Checks.sentence("Promise 18", "by numbers");
        NameMerges x = Checks.withNames(24);
        for (int n = 23; n >= 0; n -= 2) {
            Checks.call(x, n, "a");
        }
        x.unit('a');
        Checks.same("every second one", x.find(0), 12);
        for (int k = 0; k < 12; k++) {
            Checks.same("name " + k, x.found(k), 2 * k + 1);
        }
        for (int n = 0; n < 24; n += 2) {
            x.merge(n, n + 1, 0);
        }
        Checks.same("all", x.find(0), 24);
        for (int k = 0; k < 24; k++) {
            Checks.same("name " + k + " of all", x.found(k), k);
        }
        Checks.noPlace("none behind all", () -> x.found(24));
    }

    private static void foundBeyondThem() {
        Checks.sentence("Promise 18", "IndexOutOfBoundsException: there is no such one");
        NameMerges x = Checks.withNames(2);
        Checks.noPlace("nothing was looked for", () -> x.found(0));
        Checks.call(x, 0, "a");
        Checks.call(x, 1, "a");
        x.unit('a');
        x.find(0);
        for (int none : new int[] {-1, 2, 3, 24, 32, Integer.MIN_VALUE, Integer.MAX_VALUE}) {
            Checks.noPlace("name " + none, () -> x.found(none));
        }
        Checks.same("the last one", x.found(1), 1);
    }

    private static void outsideInPlaceOfAnother() {
        Checks.sentence("Promise 19", "A name's number outside, in place of any other in the set");
        NameMerges x = Checks.withNames(2);
        for (int set = 0; set < 4; set++) {
            Checks.yes("the first", x.outside(1, set, 1));
            Checks.yes("another", x.outside(1, set, 999999));
            Checks.same("the first is gone", x.whose(set, 1), NameMerges.NONE);
            Checks.same("the other is there", x.whose(set, 999999), 1);
            Checks.yes("the same again", x.outside(1, set, 999999));
            Checks.yes("the first is free", x.outside(0, set, 1));
        }
        for (int set = 0; set < 4; set++) {
            Checks.same("other sets stay", x.whose(set, 1) * 10 + x.whose(set, 999999), 1);
        }
    }

    private static void outsideOfAnotherName() {
        Checks.sentence("Promise 19", "whether no other name has it (else nothing changes)");
        NameMerges x = Checks.withNames(24);
        x.outside(0, 1, 5);
        x.outside(23, 1, 6);
        Checks.no("the last asks the first's", x.outside(23, 1, 5));
        Checks.no("the first asks the last's", x.outside(0, 1, 6));
        Checks.no("one that has none", x.outside(12, 1, 6));
        Checks.same("the first keeps it", x.whose(1, 5), 0);
        Checks.same("the last keeps it", x.whose(1, 6), 23);
        x.merge(0, 23, 0);
        Checks.no("one with it is another name", x.outside(0, 1, 6));
    }

    private static void outsideOfNoNameOrSet() {
        Checks.sentence("Promise 19", "IndexOutOfBoundsException");
        NameMerges x = Checks.withNames(2);
        for (int none : new int[] {-1, 2, 24, 32, Integer.MIN_VALUE, Integer.MAX_VALUE}) {
            Checks.noPlace("name " + none, () -> x.outside(none, 0, 5));
        }
        for (int none : new int[] {-1, 4, 5, Integer.MIN_VALUE, Integer.MAX_VALUE}) {
            Checks.noPlace("set " + none, () -> x.outside(0, none, 5));
        }
    }

    private static void outsideOfNoNumber() {
        Checks.sentence("Promise 19", "IllegalArgumentException: number");
        NameMerges x = Checks.withNames(1);
        x.outside(0, 0, 5);
        for (int none : new int[] {0, -1, 1000000, Integer.MIN_VALUE, Integer.MAX_VALUE}) {
            Checks.badArgument("number " + none, () -> x.outside(0, 0, none));
        }
        Checks.same("it stays", x.whose(0, 5), 0);
    }

    private static void whoseNumber() {
        Checks.sentence("Promise 20", "Who has a number outside");
        NameMerges x = Checks.withNames(24);
        for (int n = 0; n < 24; n++) {
            x.outside(n, n % 4, 999999 - n / 4);
        }
        for (int n = 0; n < 24; n++) {
            for (int set = 0; set < 4; set++) {
                int due = n - n % 4 + set;
                Checks.same("set " + set + ", as of " + n, x.whose(set, 999999 - n / 4), due);
            }
        }
    }

    private static void whoseNone() {
        Checks.sentence("Promise 20", "NONE");
        NameMerges x = Checks.withNames(2);
        x.outside(0, 0, 5);
        int[] none = {4, 6, 1, 999999, 0, -1, -5, 1000000, Integer.MIN_VALUE, Integer.MAX_VALUE};
        for (int number : none) {
            Checks.same("number " + number, x.whose(0, number), NameMerges.NONE);
        }
        Checks.same("in another set", x.whose(1, 5), NameMerges.NONE);
        Checks.same("without names", new NameMerges().whose(0, 0), NameMerges.NONE);
    }

    private static void whoseInNoSet() {
        Checks.sentence("Promise 20", "IndexOutOfBoundsException: set");
        NameMerges x = Checks.withNames(1);
        for (int none : new int[] {-1, 4, 5, Integer.MIN_VALUE, Integer.MAX_VALUE}) {
            Checks.noPlace("set " + none, () -> x.whose(none, 5));
            Checks.noPlace("set " + none + ", no number", () -> x.whose(none, 0));
        }
    }

    private static void countSigns() {
        Checks.sentence("Promise 21", "0 signs of the pad");
        NameMerges x = Checks.withNames(1);
        Checks.same("none", x.count(0), 0);
        Checks.write(x, "abcdefghijkl");
        Checks.same("all", x.count(0), 12);
        x.find(0);
        Checks.same("after a search", x.count(0), 12);
        x.variant(0, 0, 0, 0);
        Checks.same("after a variant", x.count(0), 0);
    }

    private static void countNames() {
        Checks.sentence("Promise 21", "1 names");
        for (int many = 0; many <= 24; many++) {
            Checks.same("names", Checks.withNames(many).count(1), many);
        }
        NameMerges x = Checks.withNames(2);
        x.merge(0, 1, 0);
        Checks.same("ones are two names", x.count(1), 2);
    }

    private static void countVariants() {
        Checks.sentence("Promise 21", "2 variants of all");
        NameMerges x = Checks.withNames(24);
        for (int i = 0; i < 96; i++) {
            x.unit('a');
            x.variant(i % 24, 0, 0, 0);
            Checks.same("variants", x.count(2), i + 1);
        }
    }

    private static void countMerges() {
        Checks.sentence("Promise 21", "3 merges told");
        NameMerges x = Checks.withNames(3);
        Checks.same("none", x.count(3), 0);
        x.merge(0, 1, 5);
        x.merge(0, 1, 6);
        Checks.same("one, the other was not told", x.count(3), 1);
        x.part(0, 1, 9);
        Checks.same("a parted one was told", x.count(3), 1);
        x.decide(0, 2, 2);
        x.merge(0, 2, 5);
        Checks.same("unlike ones are not", x.count(3), 1);
        x.merge(0, 1, 9);
        Checks.same("two of the same", x.count(3), 2);
    }

    private static void countDecided() {
        Checks.sentence("Promise 21", "4 pairs decided");
        NameMerges x = Checks.withNames(3);
        x.decide(0, 1, 1);
        x.decide(1, 0, 2);
        Checks.same("one pair in both orders", x.count(4), 1);
        x.decide(1, 2, 2);
        Checks.same("two pairs", x.count(4), 2);
        x.decide(0, 2, 0);
        Checks.same("not decided is none", x.count(4), 2);
        x.decide(0, 1, 0);
        x.decide(2, 1, 0);
        Checks.same("not any more", x.count(4), 0);
    }

    private static void countBroader() {
        Checks.sentence("Promise 21", "5 pairs told to be broader");
        NameMerges x = Checks.withNames(24);
        for (int a = 0; a < 24; a++) {
            for (int b = a + 1; b < 24; b++) {
                x.broader(a, b);
            }
        }
        Checks.same("all there can be", x.count(5), 276);
        NameMerges y = Checks.withNames(3);
        y.broader(0, 1);
        y.broader(1, 2);
        y.broader(0, 1);
        y.broader(2, 0);
        Checks.same("neither over others, nor twice, nor in a ring", y.count(5), 2);
    }

    private static void countOfNoneOfThese() {
        Checks.sentence("Promise 21", "IndexOutOfBoundsException: none of these");
        NameMerges x = Checks.withNames(1);
        for (int none : new int[] {-1, 6, 7, 256, Integer.MIN_VALUE, Integer.MAX_VALUE}) {
            Checks.noPlace("count " + none, () -> x.count(none));
        }
    }
}
