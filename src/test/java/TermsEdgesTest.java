/** "Terms": each sentence that names a limit, an edge or an empty case has a test of its own. */
public final class TermsEdgesTest {
    private static final int LAST_DAY = 100000;

    private interface DayCall {
        void on(NameMerges x, int day);
    }

    public static void main(String[] args) {
        callsOfOneObject();
        days();
        signs();
        thePad();
        names();
        variants();
        texts();
        languages();
        daysInForce();
        datesIfTold();
        pointsInOrder();
        pointsWhoseRestsFall();
        likenessWithoutVariants();
        likenessOfLanguages();
        likenessOfDates();
        decidedAtFirst();
        mergedFromTheDayOnTillTheParting();
        mergedForEver();
        oneOverAnyOthers();
        numberIsTheLeast();
        noneBroaderThanItself();
        outsideNumbers();
        sets();
        oneNumberInEachSet();
        noTwoHaveTheSameNumber();
        Checks.end();
    }

    private static void callsOfOneObject() {
        Checks.sentence("What it is", "An object is used for at most 512 calls after it has been made");
        NameMerges x = Checks.withNames(24);
        int calls = 24;
        for (int i = 0; i < 96; i++) {
            x.unit(97 + i % 26);
            x.variant(i / 4, i % 6, i, LAST_DAY);
            calls += 2;
        }
        for (int i = 0; i < 59; i++) {
            x.merge(0, 1, 2 * i);
            x.part(0, 1, 2 * i + 1);
            calls += 2;
        }
        x.merge(0, 1, 118);
        for (calls++; calls < 509; calls++) {
            x.candidates(calls % 12);
        }
        Checks.same("call 510", x.as(1, 118), 0);
        Checks.same("call 511", x.count(2), 96);
        Checks.same("call 512", x.candidates(0), 275);
    }

    private static void days() {
        Checks.sentence("Terms", "DAYS are 0 .. 100000");
        dayOf("variant, from", (x, day) -> x.variant(0, 0, day, Math.max(day, LAST_DAY)));
        dayOf("variant, from and to", (x, day) -> x.variant(0, 0, day, day));
        dayOf("variant, to", (x, day) -> x.variant(0, 0, Math.min(day, 0), day));
        dayOf("dates, from", (x, day) -> x.dates(0, day, Math.max(day, LAST_DAY)));
        dayOf("dates, from and to", (x, day) -> x.dates(0, day, day));
        dayOf("dates, to", (x, day) -> x.dates(0, Math.min(day, 0), day));
        dayOf("merge", (x, day) -> x.merge(0, 1, day));
        dayOf("part", (x, day) -> x.part(0, 1, day));
        dayOf("as", (x, day) -> x.as(0, day));
        dayOf("find", (x, day) -> x.find(day));
    }

    private static void dayOf(String what, DayCall call) {
        for (int day : new int[] {0, 1, 65536, 99999, 100000}) {
            Checks.takes(what + " " + day, () -> call.on(readyForAll(), day));
        }
        for (int day : new int[] {-1, -100000, 100001, 131072, Integer.MIN_VALUE, Integer.MAX_VALUE}) {
            Checks.badArgument(what + " " + day, () -> call.on(readyForAll(), day));
        }
    }

    private static NameMerges readyForAll() {
        NameMerges x = Checks.withNames(2);
        x.unit('a');
        return x;
    }

    private static void signs() {
        Checks.sentence("Terms", "SIGNS are 97 .. 122");
        for (int sign = -300; sign <= 300; sign++) {
            int each = sign;
            if (97 <= sign && sign <= 122) {
                Checks.same("unit " + sign, new NameMerges().unit(sign), 1);
            } else {
                Checks.badArgument("unit " + sign, () -> new NameMerges().unit(each));
            }
        }
        for (int sign : new int[] {65536 + 97, -65536 + 97, Integer.MIN_VALUE + 97, Integer.MAX_VALUE}) {
            Checks.badArgument("unit " + sign, () -> new NameMerges().unit(sign));
        }
        for (int sign = 97; sign <= 122; sign++) {
            eachSignIsItself(sign);
        }
    }

    private static void eachSignIsItself(int sign) {
        NameMerges x = Checks.withNames(1);
        x.unit(sign);
        x.variant(0, 0, 0, 0);
        int hits = 0;
        for (int other = 97; other <= 122; other++) {
            x.unit(other);
            hits += x.find(0) * other;
            x.clear();
        }
        Checks.same("the one sign that is " + sign, hits, sign);
    }

    private static void thePad() {
        Checks.sentence("Terms", "THE PAD is a row of at most 12");
        NameMerges x = new NameMerges();
        for (int i = 1; i <= 12; i++) {
            Checks.same("sign " + i, x.unit('z'), i);
        }
        Checks.badState("sign 13", () -> x.unit('z'));
        Checks.same("signs", x.count(0), 12);
    }

    private static void names() {
        Checks.sentence("Terms", "NAMES are 0, 1, .. , at most 24");
        NameMerges x = new NameMerges();
        for (int i = 0; i < 24; i++) {
            int next = i;
            Checks.noPlace("name " + i + " is not there yet", () -> x.as(next, 0));
            Checks.same("name " + i, x.name(), i);
            Checks.same("it is there", x.as(i, 0), i);
        }
        Checks.badState("a name more", () -> x.name());
        Checks.noPlace("no name 24", () -> x.as(24, 0));
    }

    private static void variants() {
        Checks.sentence("Terms", "each has at most 4 VARIANTS");
        NameMerges x = Checks.withNames(24);
        for (int n = 0; n < 24; n++) {
            for (int i = 1; i <= 4; i++) {
                x.unit('a');
                Checks.same("variant " + i + " of " + n, x.variant(n, 0, 0, 0), i);
            }
        }
        x.unit('a');
        for (int n = 0; n < 24; n++) {
            int each = n;
            Checks.badState("variant 5 of " + n, () -> x.variant(each, 0, 0, 0));
        }
        Checks.same("variants", x.count(2), 96);
    }

    private static void texts() {
        Checks.sentence("Terms", "a text of 1 .. 12 signs");
        String twelve = "abcdefghijkl";
        Checks.badState("none", () -> Checks.withNames(1).variant(0, 0, 0, 0));
        for (int length = 1; length <= 12; length++) {
            NameMerges x = Checks.withNames(1);
            Checks.write(x, twelve.substring(0, length));
            Checks.same("a text of " + length, x.variant(0, 0, 0, 0), 1);
            for (int other = 1; other <= 12; other++) {
                Checks.write(x, twelve.substring(0, other));
                Checks.same(length + " is found by " + other, x.find(0), other == length ? 1 : 0);
                x.clear();
            }
        }
    }

    private static void languages() {
        Checks.sentence("Terms", "a LANGUAGE 0 .. 5");
        NameMerges x = Checks.withNames(12);
        for (int n = 0; n < 12; n++) {
            x.unit('a');
            Checks.same("language " + n % 6, x.variant(n, n % 6, 0, 0), 1);
        }
        for (int a = 0; a < 12; a++) {
            for (int b = 0; b < 12; b++) {
                Checks.same("languages of " + a + ", " + b, x.score(a, b), a % 6 == b % 6 ? 12 : 10);
            }
        }
        x.unit('a');
        for (int language : new int[] {-1, 6, 7, 31, 32, 37, 256, Integer.MIN_VALUE, Integer.MAX_VALUE}) {
            Checks.badArgument("language " + language, () -> x.variant(0, language, 0, 0));
        }
    }

    private static void daysInForce() {
        Checks.sentence("Terms", "days from .. to (both with them) on which it is IN FORCE");
        int[][] spans = {{0, 0}, {0, 1}, {7, 7}, {7, 9}, {99999, 99999}, {99999, LAST_DAY}, {LAST_DAY, LAST_DAY}};
        for (int[] span : spans) {
            NameMerges x = Checks.withNames(1);
            x.unit('a');
            x.variant(0, 0, span[0], span[1]);
            x.unit('a');
            for (int day : new int[] {0, 1, 2, 6, 7, 8, 9, 10, 99998, 99999, LAST_DAY}) {
                boolean within = span[0] <= day && day <= span[1];
                Checks.same(span[0] + " .. " + span[1] + " on " + day, x.find(day), within ? 1 : 0);
            }
        }
    }

    private static void datesIfTold() {
        Checks.sentence("Terms", "and, if told, DATES: a first and a last day");
        NameMerges x = Checks.withNames(2);
        x.dates(0, 0, LAST_DAY);
        Checks.same("one has none", x.score(0, 1), 0);
        Checks.same("in the other order", x.score(1, 0), 0);
        Checks.same("it has none with itself", x.score(1, 1), 0);
        x.dates(1, 0, 0);
        Checks.same("day 0 is a date", x.score(0, 1), 3);
        x.dates(1, LAST_DAY, LAST_DAY);
        Checks.same("the last day is one", x.score(0, 1), 3);
        x.dates(0, 0, 99999);
        Checks.same("the latest dates count", x.score(0, 1), -5);
    }

    private static void pointsInOrder() {
        Checks.sentence("Terms", "that both have, in order, but not necessarily one right behind the other");
        pointsAre("ab", "ba", 5);
        pointsAre("abc", "cba", 3);
        pointsAre("axbxcx", "yaybyc", 5);
        pointsAre("abcdefghijkl", "lkjihgfedcba", 0);
        pointsAre("abababababab", "bababababa", 9);
        pointsAre("aaaaaaaaaaaa", "a", 1);
        pointsAre("azzzzzzzzzzb", "ab", 2);
        pointsAre("xabcd", "dabcx", 6);
        pointsAre("abcabc", "cabcab", 8);
    }

    private static void pointsAre(String a, String b, int due) {
        NameMerges x = Checks.withNames(2);
        Checks.call(x, 0, a, 0);
        Checks.call(x, 1, b, 1);
        Checks.same(a + ", " + b, x.score(0, 1), due);
        Checks.same(b + ", " + a, x.score(1, 0), due);
    }

    private static void pointsWhoseRestsFall() {
        Checks.sentence("Terms", "divided by the lengths of both together (rests fall)");
        for (int a = 1; a <= 12; a++) {
            for (int b = 1; b <= 12; b++) {
                for (int both = 0; both <= Math.min(a, b); both++) {
                    String shared = "a".repeat(both);
                    pointsAre(shared + "b".repeat(a - both), shared + "c".repeat(b - both), 20 * both / (a + b));
                }
            }
        }
    }

    private static void likenessWithoutVariants() {
        Checks.sentence("Terms", "the most points of a variant of the one and a variant of the other (0 if one has none)");
        NameMerges x = Checks.withNames(2);
        Checks.same("both have none", x.score(0, 1), 0);
        Checks.call(x, 0, "ab");
        Checks.same("the second has none", x.score(0, 1), 0);
        Checks.same("the first has none", x.score(1, 0), 0);
        Checks.call(x, 1, "ab");
        Checks.same("both have one", x.score(0, 1), 12);
        for (int place = 0; place < 16; place++) {
            mostOfFourByFour(place / 4, place % 4);
        }
    }

    /** Four variants each, of which just one pair is alike. */
    private static void mostOfFourByFour(int likeOfA, int likeOfB) {
        NameMerges x = Checks.withNames(2);
        for (int i = 0; i < 4; i++) {
            Checks.call(x, 0, i == likeOfA ? "zy" : "a", 0);
            Checks.call(x, 1, i == likeOfB ? "zy" : "b", 1);
        }
        Checks.same("variant " + likeOfA + " and " + likeOfB, x.score(0, 1), 10);
    }

    private static void likenessOfLanguages() {
        Checks.sentence("Terms", "2 more if some variants of theirs have the same language");
        NameMerges x = Checks.withNames(2);
        Checks.call(x, 0, "ab", 0);
        Checks.call(x, 1, "ab", 5);
        Checks.same("none", x.score(0, 1), 10);
        Checks.call(x, 1, "q", 0);
        Checks.same("of one not most like", x.score(0, 1), 12);
        Checks.call(x, 0, "r", 5);
        Checks.same("of two: 2 more once", x.score(0, 1), 12);
        NameMerges y = Checks.withNames(2);
        Checks.call(y, 0, "a", 3);
        Checks.call(y, 1, "b", 3);
        Checks.same("of unlike texts", y.score(0, 1), 2);
        NameMerges z = Checks.withNames(2);
        Checks.write(z, "ab");
        z.variant(0, 1, 0, 4);
        Checks.write(z, "ab");
        z.variant(1, 1, 5, 9);
        Checks.same("though never in force together", z.score(0, 1), 12);
    }

    private static void likenessOfDates() {
        Checks.sentence("Terms", "3 more if both have dates with a day together, 5 less if both have dates without one");
        NameMerges x = new NameMerges();
        for (int from = 0; from < 4; from++) {
            for (int to = from; to < 4; to++) {
                x.dates(x.name(), from, to);
            }
        }
        int a = 0;
        for (int from = 0; from < 4; from++) {
            for (int to = from; to < 4; to++) {
                datesAgainstAll(x, a, from, to);
                a++;
            }
        }
    }

    private static void datesAgainstAll(NameMerges x, int a, int from, int to) {
        int b = 0;
        for (int first = 0; first < 4; first++) {
            for (int last = first; last < 4; last++) {
                int due = -5;
                for (int day = from; day <= to; day++) {
                    due = first <= day && day <= last ? 3 : due;
                }
                Checks.same("dates " + from + " .. " + to + ", " + first + " .. " + last, x.score(a, b), due);
                b++;
            }
        }
    }

    private static void decidedAtFirst() {
        Checks.sentence("Terms", "1 the same, or 2 unlike (0 not decided, at first)");
        NameMerges x = Checks.withNames(24);
        Checks.same("none is decided", x.count(4), 0);
        for (int a = 0; a < 24; a++) {
            for (int b = a + 1; b < 24; b++) {
                Checks.same(a + ", " + b, x.decide(b, a, 1), 0);
            }
        }
        Checks.same("all are", x.count(4), 276);
    }

    private static void mergedFromTheDayOnTillTheParting() {
        Checks.sentence("Terms", "from the day of telling on, not any more on the day of parting");
        int[][] spans = {{0, 1}, {0, LAST_DAY}, {5, 6}, {5, 9}, {99999, LAST_DAY}};
        for (int[] span : spans) {
            NameMerges x = Checks.withNames(2);
            x.merge(0, 1, span[0]);
            x.part(0, 1, span[1]);
            for (int day : new int[] {0, 1, 2, 4, 5, 6, 7, 8, 9, 10, 99998, 99999, LAST_DAY}) {
                boolean holds = span[0] <= day && day < span[1];
                Checks.same(span[0] + " till " + span[1] + " on " + day, x.as(1, day), holds ? 0 : 1);
            }
        }
    }

    private static void mergedForEver() {
        Checks.sentence("Terms", "(for ever, if that is not told)");
        for (int told : new int[] {0, 1, 50000, 99999, LAST_DAY}) {
            NameMerges x = Checks.withNames(2);
            x.merge(0, 1, told);
            Checks.same("from " + told + " on, on the last day", x.as(1, LAST_DAY), 0);
            Checks.same("on the first day", x.as(1, 0), told == 0 ? 0 : 1);
        }
    }

    private static void oneOverAnyOthers() {
        Checks.sentence("Terms", "if by merges that hold then, over any others, they hang together");
        for (int step : new int[] {1, 5, 7, 11, 13, 22}) {
            NameMerges x = Checks.withNames(24);
            for (int i = 0; i < 23; i++) {
                int link = i * step % 23;
                x.merge(link, link + 1, 10);
            }
            for (int n = 0; n < 24; n++) {
                Checks.same("name " + n + ", told by steps of " + step, x.as(n, 10), 0);
                Checks.same("a day ahead", x.as(n, 9), n);
            }
        }
        NameMerges y = Checks.withNames(3);
        y.merge(0, 1, 10);
        y.part(0, 1, 20);
        y.merge(1, 2, 20);
        Checks.same("merges that do not hold together", y.as(2, 20), 1);
        Checks.same("nor the day before", y.as(2, 19), 2);
    }

    private static void numberIsTheLeast() {
        Checks.sentence("Terms", "their NUMBER is then the least of them");
        NameMerges x = Checks.withNames(24);
        Checks.same("alone", x.as(23, 0), 23);
        x.merge(23, 22, 1);
        Checks.same("of two", x.as(23, 1), 22);
        x.merge(23, 0, 2);
        Checks.same("over another", x.as(22, 2), 0);
        Checks.same("its own", x.as(0, 2), 0);
        x.merge(0, 1, 3);
        Checks.same("not the latest", x.as(1, 3), 0);
        x.part(23, 0, 4);
        Checks.same("of those that are left", x.as(23, 4), 22);
    }

    private static void noneBroaderThanItself() {
        Checks.sentence("Terms", "over any others no name is broader than itself");
        NameMerges x = Checks.withNames(24);
        for (int n = 22; n >= 0; n--) {
            x.broader(n, n + 1);
        }
        for (int a = 0; a < 24; a++) {
            for (int b = a; b < 24; b++) {
                Checks.same(b + " broader than " + a, x.broader(b, a), NameMerges.NONE);
            }
        }
        for (int n = 0; n < 24; n++) {
            Checks.no(n + " covers itself", x.covers(n, n));
        }
        Checks.same("pairs", x.count(5), 23);
    }

    private static void outsideNumbers() {
        Checks.sentence("Terms", "OUTSIDE numbers are 1 .. 999999");
        for (int set = 0; set < 4; set++) {
            int each = set;
            NameMerges x = Checks.withNames(1);
            for (int number : new int[] {1, 2, 65536, 999998, 999999}) {
                Checks.yes(number + " in set " + set, x.outside(0, set, number));
                Checks.same("whose", x.whose(set, number), 0);
            }
            for (int number : new int[] {0, -1, -999999, 1000000, Integer.MIN_VALUE, Integer.MAX_VALUE}) {
                Checks.badArgument(number + " in set " + set, () -> x.outside(0, each, number));
                Checks.same("whose", x.whose(set, number), NameMerges.NONE);
            }
        }
    }

    private static void sets() {
        Checks.sentence("Terms", "in SETS 0 .. 3");
        NameMerges x = Checks.withNames(1);
        for (int set = 0; set < 4; set++) {
            Checks.yes("set " + set, x.outside(0, set, 1));
        }
        for (int set : new int[] {-1, 4, 5, 32, 256, Integer.MIN_VALUE, Integer.MAX_VALUE}) {
            Checks.noPlace("outside in set " + set, () -> x.outside(0, set, 1));
            Checks.noPlace("whose in set " + set, () -> x.whose(set, 1));
        }
    }

    private static void oneNumberInEachSet() {
        Checks.sentence("Terms", "a name has at most one in each");
        NameMerges x = Checks.withNames(24);
        for (int n = 0; n < 24; n++) {
            for (int set = 0; set < 4; set++) {
                Checks.yes("first", x.outside(n, set, 100 + n));
                Checks.yes("second", x.outside(n, set, 200 + n));
            }
        }
        for (int n = 0; n < 24; n++) {
            for (int set = 0; set < 4; set++) {
                Checks.same("the first is gone", x.whose(set, 100 + n), NameMerges.NONE);
                Checks.same("the second is there", x.whose(set, 200 + n), n);
            }
        }
    }

    private static void noTwoHaveTheSameNumber() {
        Checks.sentence("Terms", "and no two names have the same");
        NameMerges x = Checks.withNames(24);
        for (int n = 0; n < 24; n++) {
            x.outside(n, 2, 1 + n);
        }
        for (int n = 0; n < 24; n++) {
            int next = (n + 1) % 24;
            Checks.no(n + " asks for that of " + next, x.outside(n, 2, 1 + next));
            Checks.yes("its own is no other's", x.outside(n, 2, 1 + n));
            Checks.yes("in another set it may", x.outside(n, 3, 1 + next));
        }
        for (int n = 0; n < 24; n++) {
            Checks.same("all keep theirs", x.whose(2, 1 + n), n);
        }
    }
}
