import java.util.Random;
import java.util.function.LongSupplier;

/** Rows of 512 calls, right and wrong ones, against the slow model: promises 1 to 21 together. */
public final class ModelTest {
    private static final int RUNS = 300;
    private static final int CALLS = 512;
    /** Days lie close together, so that merges meet; the far ones are SlowModel's. */
    private static final int HALF = 15;
    /** Wrong in many places of a call; where one is a day all the same, the model must look at it. */
    private static final int[] ODD = {
        -1, -2, 1000000, 100001, 24, 31, 32, 33, 64, 6, 96, 123, Integer.MIN_VALUE, Integer.MAX_VALUE
    };
    private static final String[] KINDS = {
        "unit", "clear", "name", "variant", "dates", "score", "candidates", "candidate", "lost", "decide",
        "merge", "part", "as", "broader", "covers", "find", "found", "outside", "whose", "count"
    };
    /** How often each kind of call comes, in the order of KINDS. */
    private static final int[][] WEIGHTS = {
        {12, 1, 3, 8, 3, 4, 2, 3, 2, 3, 8, 5, 8, 5, 4, 6, 4, 4, 4, 4},
        {30, 1, 2, 18, 4, 10, 4, 6, 4, 2, 2, 1, 2, 1, 1, 6, 4, 1, 1, 1},
        {3, 1, 3, 2, 1, 1, 1, 2, 1, 2, 30, 25, 25, 1, 1, 4, 4, 1, 1, 2},
        {1, 1, 4, 1, 1, 1, 1, 1, 1, 5, 1, 1, 1, 25, 25, 1, 1, 15, 15, 5},
    };

    private final Random random;
    private final NameMerges x = new NameMerges();
    private final SlowModel model = new SlowModel();
    private int nameCount = 0;

    private ModelTest(long seed) {
        random = new Random(seed);
    }

    public static void main(String[] args) {
        for (int run = 0; run < RUNS; run++) {
            ModelTest test = new ModelTest(run);
            int[] weights = WEIGHTS[run % WEIGHTS.length];
            int names = run % 3 == 0 ? 24 : 2 + run % 7;
            boolean right = true;
            for (int call = 0; right && call < CALLS; call++) {
                String kind = call < names ? "name" : test.kind(weights);
                right = test.step("run " + run + ", call " + call, kind);
            }
        }
        Checks.end();
    }

    private String kind(int[] weights) {
        int sum = 0;
        for (int weight : weights) {
            sum += weight;
        }
        int pick = random.nextInt(sum);
        int k = 0;
        while (pick >= weights[k]) {
            pick -= weights[k];
            k++;
        }
        return KINDS[k];
    }

    private boolean step(String where, String kind) {
        int a = argument(kind, 0);
        int b = argument(kind, 1);
        int c = argument(kind, 2);
        int d = argument(kind, 3);
        String got = answer(() -> asked(kind, a, b, c, d));
        String due = due(() -> modelled(kind, a, b, c, d));
        if (kind.equals("name")) {
            nameCount = (int) model.count(1);
        }
        Checks.text(where + ": " + kind + " of " + a + ", " + b + ", " + c + ", " + d, got, due);
        return got.equals(due);
    }

    private static String answer(LongSupplier call) {
        try {
            return String.valueOf(call.getAsLong());
        } catch (RuntimeException e) {
            return "throws." + Checks.nameOf(e);
        }
    }

    private static String due(LongSupplier call) {
        try {
            return String.valueOf(call.getAsLong());
        } catch (RuntimeException e) {
            return "throws." + e.getClass().getSimpleName();
        }
    }

    /** Mostly a right one for that place of the call, at times an odd one. */
    private int argument(String kind, int place) {
        if (random.nextInt(60) == 0) {
            return ODD[random.nextInt(ODD.length)];
        }
        switch (kind) {
            case "unit":
                return 97 + random.nextInt(3) * (random.nextInt(9) == 0 ? 12 : 1);
            case "variant":
                return place == 0 ? someName() : place == 1 ? random.nextInt(6) : someDay(place == 3);
            case "dates":
                return place == 0 ? someName() : someDay(place == 2);
            case "merge": case "part":
                return place == 2 ? someDay(random.nextBoolean()) : someName();
            case "as":
                return place == 0 ? someName() : someDay(random.nextBoolean());
            case "find":
                return someDay(random.nextBoolean());
            case "candidates": case "lost":
                return random.nextInt(18) - 5;
            case "candidate":
                return random.nextInt(place == 0 ? 8 : 2);
            case "found":
                return random.nextInt(4);
            case "decide":
                return place == 2 ? random.nextInt(3) : someName();
            case "outside":
                return place == 0 ? someName() : place == 1 ? random.nextInt(4) : 1 + random.nextInt(8);
            case "whose":
                return place == 0 ? random.nextInt(4) : random.nextInt(9);
            case "count":
                return random.nextInt(6);
            default:
                return someName();
        }
    }

    private int someName() {
        return random.nextInt(Math.max(1, nameCount));
    }

    private int someDay(boolean late) {
        int day = random.nextInt(HALF) + (late ? HALF : 0);
        boolean far = random.nextInt(12) == 0;
        return far ? SlowModel.FAR + random.nextInt(SlowModel.LAST - SlowModel.FAR + 1) : day;
    }

    private long asked(String kind, int a, int b, int c, int d) {
        switch (kind) {
            case "unit": return x.unit(a);
            case "clear": return x.clear();
            case "name": return x.name();
            case "variant": return x.variant(a, b, c, d);
            case "dates": return x.dates(a, b, c) ? 1 : 0;
            case "score": return x.score(a, b);
            case "candidates": return x.candidates(a);
            case "candidate": return x.candidate(a, b);
            case "lost": return x.lost(a) ? 1 : 0;
            case "decide": return x.decide(a, b, c);
            case "merge": return x.merge(a, b, c);
            case "part": return x.part(a, b, c) ? 1 : 0;
            case "as": return x.as(a, b);
            case "broader": return x.broader(a, b);
            case "covers": return x.covers(a, b) ? 1 : 0;
            case "find": return x.find(a);
            case "found": return x.found(a);
            case "outside": return x.outside(a, b, c) ? 1 : 0;
            case "whose": return x.whose(a, b);
            case "count": return x.count(a);
            default: throw new AssertionError(kind);
        }
    }

    private long modelled(String kind, int a, int b, int c, int d) {
        switch (kind) {
            case "unit": return model.unit(a);
            case "clear": return model.clear();
            case "name": return model.name();
            case "variant": return model.variant(a, b, c, d);
            case "dates": return model.dates(a, b, c);
            case "score": return model.score(a, b);
            case "candidates": return model.candidates(a);
            case "candidate": return model.candidate(a, b);
            case "lost": return model.lost(a);
            case "decide": return model.decide(a, b, c);
            case "merge": return model.merge(a, b, c);
            case "part": return model.part(a, b, c);
            case "as": return model.as(a, b);
            case "broader": return model.broader(a, b);
            case "covers": return model.covers(a, b);
            case "find": return model.find(a);
            case "found": return model.found(a);
            case "outside": return model.outside(a, b, c);
            case "whose": return model.whose(a, b);
            case "count": return model.count(a);
            default: throw new AssertionError(kind);
        }
    }
}
