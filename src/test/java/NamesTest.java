/** Promises 4 (name), 5 (variant) and 6 (dates). */
public final class NamesTest {
    public static void main(String[] args) {
        namesAreNumbered();
        variantsAreCounted();
        variantTakesThePad();
        variantEdges();
        variantRefuses();
        datesTellWhetherTheyChange();
        datesRefuse();
        Checks.end();
    }

    private static void namesAreNumbered() {
        NameMerges x = new NameMerges();
        for (int i = 0; i < 24; i++) {
            Checks.same("name", x.name(), i);
        }
        Checks.badState("name 25", () -> x.name());
        Checks.same("names", x.count(1), 24);
        Checks.same("the last one is there", x.as(23, 0), 23);
        Checks.noPlace("no name 24", () -> x.as(24, 0));
    }

    private static void variantsAreCounted() {
        NameMerges x = Checks.withNames(2);
        for (int i = 1; i <= 4; i++) {
            x.unit(97);
            Checks.same("variant " + i + " of 1", x.variant(1, 0, 0, 0), i);
        }
        x.unit(97);
        Checks.badState("variant 5", () -> x.variant(1, 0, 0, 0));
        Checks.same("the pad stays", x.count(0), 1);
        Checks.same("another name's first", x.variant(0, 0, 0, 0), 1);
    }

    private static void variantTakesThePad() {
        NameMerges x = Checks.withNames(1);
        Checks.write(x, "abcdefghijkl");
        x.variant(0, 0, 3, 5);
        Checks.same("the pad is empty then", x.count(0), 0);
        Checks.badState("an empty pad is no variant", () -> x.variant(0, 0, 0, 0));
        Checks.write(x, "abcdefghijkl");
        Checks.same("the whole pad was taken", x.find(4), 1);
    }

    private static void variantEdges() {
        NameMerges x = Checks.withNames(1);
        x.unit(97);
        Checks.same("language 0, day 0 alone", x.variant(0, 0, 0, 0), 1);
        x.unit(97);
        Checks.same("language 5, last day alone", x.variant(0, 5, 100000, 100000), 2);
        x.unit(97);
        Checks.same("all days", x.variant(0, 3, 0, 100000), 3);
    }

    private static void variantRefuses() {
        NameMerges x = Checks.withNames(2);
        Checks.noPlace("no name 2, an empty pad too", () -> x.variant(2, 9, 9, 0));
        Checks.noPlace("no name -1", () -> x.variant(-1, 0, 0, 0));
        Checks.badState("an empty pad, language too", () -> x.variant(0, 6, 0, 0));
        x.unit(97);
        Checks.badArgument("language 6", () -> x.variant(0, 6, 0, 0));
        Checks.badArgument("language -1", () -> x.variant(0, -1, 0, 0));
        Checks.badArgument("from -1", () -> x.variant(0, 0, -1, 0));
        Checks.badArgument("to 100001", () -> x.variant(0, 0, 0, 100001));
        Checks.badArgument("both -1", () -> x.variant(0, 0, -1, -1));
        Checks.badArgument("both 100001", () -> x.variant(0, 0, 100001, 100001));
        Checks.badArgument("from above to", () -> x.variant(0, 0, 1, 0));
        Checks.same("no variants", x.count(2), 0);
        Checks.same("the pad stays", x.count(0), 1);
        x.variant(0, 0, 0, 0);
        for (int i = 2; i <= 4; i++) {
            x.unit(97);
            x.variant(0, 0, 0, 0);
        }
        Checks.badState("four, and an empty pad", () -> x.variant(0, 0, 0, 0));
        x.unit(97);
        Checks.badState("four, language too: the state goes first", () -> x.variant(0, 6, 5, 4));
    }

    private static void datesTellWhetherTheyChange() {
        NameMerges x = Checks.withNames(2);
        Checks.yes("none before", x.dates(0, 0, 0));
        Checks.no("the same", x.dates(0, 0, 0));
        Checks.yes("another end", x.dates(0, 0, 100000));
        Checks.yes("another beginning", x.dates(0, 1, 100000));
        Checks.no("the same again", x.dates(0, 1, 100000));
        Checks.yes("another name had none", x.dates(1, 1, 100000));
        Checks.yes("back", x.dates(0, 0, 0));
    }

    private static void datesRefuse() {
        NameMerges x = Checks.withNames(1);
        Checks.noPlace("no name 1, days too", () -> x.dates(1, 5, 4));
        Checks.noPlace("no name -1", () -> x.dates(-1, 0, 0));
        Checks.badArgument("from above to", () -> x.dates(0, 5, 4));
        Checks.badArgument("from -1", () -> x.dates(0, -1, 4));
        Checks.badArgument("to 100001", () -> x.dates(0, 5, 100001));
        Checks.badArgument("both above", () -> x.dates(0, 100001, 100001));
        Checks.same("no dates were told", x.score(0, 0), 0);
        x.dates(0, 2, 3);
        Checks.badArgument("from above to, with dates", () -> x.dates(0, 5, 4));
        Checks.no("they stay", x.dates(0, 2, 3));
    }
}
