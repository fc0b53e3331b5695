/** Promises 1 to 6: each sentence that names a boundary case has a test of its own. */
public final class NameEdgesTest {
    private static final int LAST_DAY = 100000;

    public static void main(String[] args) {
        noNamesAtFirst();
        emptyPadAtFirst();
        unitTellsHowMany();
        unitOnAFullPad();
        unitOfNoSign();
        clearTellsHowMany();
        nameTellsItsNumber();
        nameBeyondThem();
        variantEmptiesThePad();
        variantTellsHowMany();
        variantOfNoName();
        variantWhenThereAreFour();
        variantOfAnEmptyPad();
        variantInNoLanguage();
        variantOnNoDays();
        datesHadOthersOrNone();
        datesOfNoName();
        datesOnNoDays();
        Checks.end();
    }

    private static void noNamesAtFirst() {
        Checks.sentence("Promise 1", "No names");
        NameMerges x = new NameMerges();
        Checks.same("names", x.count(1), 0);
        x.unit('a');
        Checks.noPlace("variant", () -> x.variant(0, 0, 0, 0));
        Checks.noPlace("dates", () -> x.dates(0, 0, 0));
        Checks.noPlace("score", () -> x.score(0, 0));
        Checks.noPlace("decide", () -> x.decide(0, 1, 1));
        Checks.noPlace("merge", () -> x.merge(0, 1, 0));
        Checks.noPlace("part", () -> x.part(0, 1, 0));
        Checks.noPlace("as", () -> x.as(0, 0));
        Checks.noPlace("broader", () -> x.broader(0, 1));
        Checks.noPlace("covers", () -> x.covers(0, 1));
        Checks.noPlace("outside", () -> x.outside(0, 0, 1));
        Checks.noPlace("candidate", () -> x.candidate(0, 0));
        Checks.noPlace("found", () -> x.found(0));
        Checks.same("candidates", x.candidates(Integer.MIN_VALUE), 0);
        Checks.no("lost", x.lost(Integer.MIN_VALUE));
        Checks.same("find", x.find(0), 0);
        for (int set = 0; set < 4; set++) {
            Checks.same("whose", x.whose(set, 1), NameMerges.NONE);
        }
        for (int what = 1; what <= 5; what++) {
            Checks.same("count " + what, x.count(what), 0);
        }
    }

    private static void emptyPadAtFirst() {
        Checks.sentence("Promise 1", "an empty pad");
        Checks.same("signs", new NameMerges().count(0), 0);
        Checks.same("clear", new NameMerges().clear(), 0);
        Checks.same("the first sign", new NameMerges().unit('a'), 1);
        Checks.badState("no variant of it", () -> Checks.withNames(1).variant(0, 0, 0, 0));
    }

    private static void unitTellsHowMany() {
        Checks.sentence("Promise 2", "A sign behind the pad: how many it has");
        NameMerges x = Checks.withNames(1);
        String text = "zyxwvutsrqpo";
        for (int i = 0; i < 12; i++) {
            Checks.same("sign " + i, x.unit(text.charAt(i)), i + 1);
            Checks.same("count", x.count(0), i + 1);
        }
        x.variant(0, 0, 0, 0);
        Checks.write(x, text);
        Checks.same("in this order", x.find(0), 1);
        x.clear();
        Checks.write(x, "opqrstuvwxyz");
        Checks.same("not the other way", x.find(0), 0);
    }

    private static void unitOnAFullPad() {
        Checks.sentence("Promise 2", "IllegalStateException: there are 12");
        NameMerges x = new NameMerges();
        Checks.write(x, "abcdefghijk");
        Checks.same("the twelfth", x.unit('l'), 12);
        Checks.badState("the thirteenth", () -> x.unit('m'));
        Checks.badState("once more", () -> x.unit('m'));
        x.clear();
        Checks.same("when it is empty again", x.unit('m'), 1);
    }

    private static void unitOfNoSign() {
        Checks.sentence("Promise 2", "IllegalArgumentException: it is none");
        NameMerges x = new NameMerges();
        Checks.badArgument("below them", () -> x.unit(96));
        Checks.same("the first", x.unit(97), 1);
        Checks.same("the last", x.unit(122), 2);
        Checks.badArgument("above them", () -> x.unit(123));
        Checks.badArgument("one when it wraps around", () -> x.unit(97 + 65536));
        Checks.same("the pad has two", x.count(0), 2);
    }

    private static void clearTellsHowMany() {
        Checks.sentence("Promise 3", "The pad is empty: how many signs it had");
        for (int many = 0; many <= 12; many++) {
            NameMerges x = new NameMerges();
            Checks.write(x, "abcdefghijkl".substring(0, many));
            Checks.same("clear of " + many, x.clear(), many);
            Checks.same("signs then", x.count(0), 0);
            Checks.same("clear of none", x.clear(), 0);
        }
    }

    private static void nameTellsItsNumber() {
        Checks.sentence("Promise 4", "A name: its number");
        NameMerges x = new NameMerges();
        Checks.same("the first", x.name(), 0);
        Checks.same("the second", x.name(), 1);
        x.merge(0, 1, 0);
        Checks.same("merges do not count", x.name(), 2);
        Checks.same("it has no variants", x.count(2), 0);
        Checks.same("it is alone", x.as(2, LAST_DAY), 2);
    }

    private static void nameBeyondThem() {
        Checks.sentence("Promise 4", "IllegalStateException: there are 24");
        NameMerges x = Checks.withNames(23);
        Checks.same("the last", x.name(), 23);
        Checks.badState("beyond", () -> x.name());
        Checks.badState("once more", () -> x.name());
        Checks.same("names", x.count(1), 24);
    }

    private static void variantEmptiesThePad() {
        Checks.sentence("Promise 5", "The pad becomes a variant of a name, and is empty then");
        NameMerges x = Checks.withNames(1);
        Checks.write(x, "abcdefghijkl");
        x.variant(0, 0, 0, 0);
        Checks.same("signs", x.count(0), 0);
        Checks.same("the next sign is the first", x.unit('q'), 1);
        Checks.same("it is no part of the variant", x.find(0), 0);
    }

    private static void variantTellsHowMany() {
        Checks.sentence("Promise 5", "how many it has");
        NameMerges x = Checks.withNames(2);
        for (int i = 1; i <= 4; i++) {
            x.unit('a');
            Checks.same("the same variant again is one more", x.variant(0, 0, 0, 0), i);
        }
        x.unit('a');
        Checks.same("of this name", x.variant(1, 0, 0, 0), 1);
    }

    private static void variantOfNoName() {
        Checks.sentence("Promise 5", "IndexOutOfBoundsException");
        NameMerges x = Checks.withNames(2);
        x.unit('a');
        Checks.noPlace("-1", () -> x.variant(-1, 0, 0, 0));
        Checks.noPlace("2", () -> x.variant(2, 0, 0, 0));
        Checks.same("the last one", x.variant(1, 0, 0, 0), 1);
    }

    private static void variantWhenThereAreFour() {
        Checks.sentence("Promise 5", "IllegalStateException: it has four");
        NameMerges x = Checks.withNames(2);
        for (int i = 0; i < 4; i++) {
            Checks.call(x, 0, "a");
        }
        x.unit('a');
        Checks.badState("the fifth", () -> x.variant(0, 0, 0, 0));
        Checks.same("variants", x.count(2), 4);
        Checks.same("the pad stays for another name", x.variant(1, 0, 0, 0), 1);
    }

    private static void variantOfAnEmptyPad() {
        Checks.sentence("Promise 5", "IllegalStateException: .. or the pad is empty");
        NameMerges x = Checks.withNames(1);
        Checks.badState("never written on", () -> x.variant(0, 0, 0, 0));
        x.unit('a');
        x.clear();
        Checks.badState("cleared", () -> x.variant(0, 0, 0, 0));
        x.unit('a');
        x.variant(0, 0, 0, 0);
        Checks.badState("used", () -> x.variant(0, 0, 0, 0));
        Checks.same("variants", x.count(2), 1);
    }

    private static void variantInNoLanguage() {
        Checks.sentence("Promise 5", "IllegalArgumentException: language");
        NameMerges x = Checks.withNames(1);
        x.unit('a');
        Checks.badArgument("-1", () -> x.variant(0, -1, 0, 0));
        Checks.badArgument("6", () -> x.variant(0, 6, 0, 0));
        Checks.same("the pad stays", x.count(0), 1);
        Checks.same("0", x.variant(0, 0, 0, 0), 1);
        x.unit('a');
        Checks.same("5", x.variant(0, 5, 0, 0), 2);
    }

    private static void variantOnNoDays() {
        Checks.sentence("Promise 5", "IllegalArgumentException: .. or days (from is above to)");
        NameMerges x = Checks.withNames(1);
        x.unit('a');
        Checks.badArgument("from above to by one", () -> x.variant(0, 0, 8, 7));
        Checks.badArgument("from above to by all", () -> x.variant(0, 0, LAST_DAY, 0));
        Checks.badArgument("from below the days", () -> x.variant(0, 0, -1, 7));
        Checks.badArgument("to above the days", () -> x.variant(0, 0, 7, 100001));
        Checks.same("the pad stays", x.count(0), 1);
        Checks.same("from is to", x.variant(0, 0, 7, 7), 1);
        x.unit('a');
        Checks.same("all days", x.variant(0, 0, 0, LAST_DAY), 2);
    }

    private static void datesHadOthersOrNone() {
        Checks.sentence("Promise 6", "A name's dates: whether it had others, or none");
        NameMerges x = Checks.withNames(2);
        Checks.yes("none", x.dates(0, 0, 0));
        Checks.no("no others", x.dates(0, 0, 0));
        Checks.yes("others: the last day", x.dates(0, 0, 1));
        Checks.yes("others: the first day", x.dates(0, 1, 1));
        Checks.yes("others: both", x.dates(0, 0, LAST_DAY));
        Checks.no("no others", x.dates(0, 0, LAST_DAY));
        Checks.yes("another name: none", x.dates(1, 0, LAST_DAY));
        Checks.no("the first name's stay", x.dates(0, 0, LAST_DAY));
    }

    private static void datesOfNoName() {
        Checks.sentence("Promise 6", "IndexOutOfBoundsException");
        NameMerges x = Checks.withNames(1);
        Checks.noPlace("-1", () -> x.dates(-1, 0, 0));
        Checks.noPlace("1", () -> x.dates(1, 0, 0));
    }

    private static void datesOnNoDays() {
        Checks.sentence("Promise 6", "IllegalArgumentException likewise");
        NameMerges x = Checks.withNames(1);
        Checks.badArgument("from above to by one", () -> x.dates(0, 8, 7));
        Checks.badArgument("from below the days", () -> x.dates(0, -1, 7));
        Checks.badArgument("to above the days", () -> x.dates(0, 7, 100001));
        Checks.badArgument("both below", () -> x.dates(0, -1, -1));
        Checks.badArgument("both above", () -> x.dates(0, 100001, 100001));
        Checks.same("it has none", x.score(0, 0), 0);
        Checks.yes("from is to", x.dates(0, 7, 7));
    }
}
