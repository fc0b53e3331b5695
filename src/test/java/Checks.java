/** What the tests share: checks that count and print what is wrong, and an end that tells CI. */
final class Checks {
    /** A call of the class under test. */
    interface Call {
        void run();
    }

    static final String NOTHING_THROWN = "nothing thrown";

    private static int done = 0;
    private static int wrong = 0;
    /** The document's sentence that is tested now, printed with what is wrong. */
    private static String sentence = "";

    private Checks() {
    }

    static void sentence(String where, String words) {
        sentence = where + " \"" + words + "\": ";
    }

    static void same(String what, long got, long due) {
        text(what, String.valueOf(got), String.valueOf(due));
    }

    static void yes(String what, boolean got) {
        text(what, String.valueOf(got), "true");
    }

    static void no(String what, boolean got) {
        text(what, String.valueOf(got), "false");
    }

    static void text(String what, String got, String due) {
        done++;
        if (!got.equals(due)) {
            wrong++;
            System.out.println(sentence + what + " answered " + got + ", due is " + due);
        }
    }

    /** The class must be the very one: the machine's own exceptions are classes below it. */
    static void refuses(Class<? extends RuntimeException> due, String what, Call call) {
        text(what, thrownBy(call), due.getSimpleName());
    }

    static void takes(String what, Call call) {
        text(what, thrownBy(call), NOTHING_THROWN);
    }

    static void noPlace(String what, Call call) {
        refuses(IndexOutOfBoundsException.class, what, call);
    }

    static void badState(String what, Call call) {
        refuses(IllegalStateException.class, what, call);
    }

    static void badArgument(String what, Call call) {
        refuses(IllegalArgumentException.class, what, call);
    }

    static String thrownBy(Call call) {
        try {
            call.run();
            return NOTHING_THROWN;
        } catch (RuntimeException e) {
            return nameOf(e);
        }
    }

    /** What a list or the machine throws is told apart: only a throw of the class itself is right. */
    static String nameOf(RuntimeException e) {
        StackTraceElement[] trace = e.getStackTrace();
        boolean own = trace.length > 0 && trace[0].getClassName().startsWith("NameMerges");
        return (own ? "" : "not by the class's own throw: ") + e.getClass().getSimpleName();
    }

    static NameMerges withNames(int count) {
        NameMerges x = new NameMerges();
        for (int i = 0; i < count; i++) {
            x.name();
        }
        return x;
    }

    static void write(NameMerges x, String text) {
        for (int i = 0; i < text.length(); i++) {
            x.unit(text.charAt(i));
        }
    }

    /** A variant in language 0, in force on all days. */
    static void call(NameMerges x, int name, String text) {
        call(x, name, text, 0);
    }

    static void call(NameMerges x, int name, String text, int language) {
        write(x, text);
        x.variant(name, language, 0, 100000);
    }

    static String foundNames(NameMerges x, int on) {
        StringBuilder all = new StringBuilder();
        int many = x.find(on);
        for (int k = 0; k < many; k++) {
            all.append(k == 0 ? "" : " ").append(x.found(k));
        }
        return all.toString();
    }

    static String candidatePairs(NameMerges x, int least) {
        StringBuilder all = new StringBuilder();
        int many = x.candidates(least);
        for (int k = 0; k < many; k++) {
            all.append(k == 0 ? "" : " ").append(x.candidate(k, 0)).append('-').append(x.candidate(k, 1));
        }
        return all.toString();
    }

    static void end() {
        System.out.println(done + " checks, " + wrong + " wrong");
        if (wrong != 0 || done == 0) {
            System.exit(1);
        }
    }
}
