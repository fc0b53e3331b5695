import java.io.IOException;
import java.lang.reflect.Field;
import java.lang.reflect.Method;
import java.lang.reflect.Modifier;
import java.nio.file.Files;
import java.nio.file.Path;
import java.util.ArrayList;
import java.util.HashSet;
import java.util.List;
import java.util.Set;
import java.util.regex.Matcher;
import java.util.regex.Pattern;

/** What LANGUAGE.md rules out, as far as the source's text or the classes show it. Run from the root. */
public final class LanguageTest {
    private static final Path SOURCE = Path.of("src/main/java/NameMerges.java");
    private static final Set<String> IMPORTS = Set.of("java.util.ArrayList", "java.util.List",
            "java.util.Arrays", "java.util.Iterator", "java.util.NoSuchElementException");
    private static final Set<String> THROWN = Set.of("IllegalStateException", "IllegalArgumentException",
            "IndexOutOfBoundsException", "ArithmeticException", "UnsupportedOperationException",
            "NoSuchElementException", "RuntimeException");
    private static final Set<String> LIBRARY = Set.of("length", "charAt", "isEmpty", "equals", "indexOf",
            "substring", "toCharArray", "append", "setCharAt", "setLength", "deleteCharAt", "reverse",
            "toString", "add", "get", "set", "remove", "size", "clear", "of", "clone", "arraycopy", "copyOf",
            "copyOfRange", "fill", "compare", "max", "min", "abs", "bitCount", "floorDiv", "floorMod",
            "numberOfTrailingZeros", "numberOfLeadingZeros", "highestOneBit", "lowestOneBit", "signum");
    private static final Set<String> LIBRARY_CLASSES = Set.of("Integer", "Long", "Math", "Arrays", "List");
    private static final String[] NOT_AT_ALL = {
        "package", "finally", "synchronized", "assert", "protected", "volatile", "native", "strictfp",
        "hashCode", "getMessage", "printStackTrace", "extends Exception", "extends RuntimeException",
        "Object", "Throwable", "Exception", "Error", "ClassCastException", "NullPointerException",
        "ArrayIndexOutOfBoundsException", "StringIndexOutOfBoundsException", "NegativeArraySizeException",
        "ArrayStoreException", "Random", "Thread", "Class", "Map", "Set", "Optional", "Stream", "var",
    };
    private static final int MOST_LINES = 60;
    private static final int MOST_PARAMETERS = 7;
    private static final int MOST_CLASSES = 12;
    private static final int MOST_FIELDS = 20;

    public static void main(String[] args) throws IOException {
        String code = withoutCommentsAndTexts(Files.readString(SOURCE));
        rule2NoLambdas(code);
        rule4Library(code);
        rule5NoInitialiser(code);
        rule6Exceptions(code);
        for (String word : NOT_AT_ALL) {
            Checks.no("rules 1, 6, 7, 13: the word " + word, holds(code, "\\b" + word + "\\b"));
        }
        rule11Sizes(code);
        Checks.end();
    }

    /** Texts stay as a pair of quotes, so that nothing written in them counts as code. */
    private static String withoutCommentsAndTexts(String source) {
        return source.replaceAll("(?s)/\\*.*?\\*/", "").replaceAll("//[^\n]*", "")
                .replaceAll("\"[^\"\n]*\"", "\"\"");
    }

    private static void rule2NoLambdas(String code) {
        Checks.no("rule 2: an arrow", code.contains("->"));
        Checks.no("rule 2: a method reference", code.contains("::"));
    }

    private static void rule4Library(String code) {
        for (String imported : all(code, "import\\s+([^;]+);")) {
            Checks.yes("rule 4: import " + imported, IMPORTS.contains(imported));
        }
        Set<String> own = ownMethods();
        for (String called : all(code, "\\.\\s*(\\w+)\\s*\\(")) {
            Checks.yes("rule 4: call of " + called, own.contains(called) || LIBRARY.contains(called));
            Checks.no("rule 4: " + called + " ends in Exact", called.endsWith("Exact"));
        }
        for (String owner : all(code, "\\b([A-Z][a-z]\\w*)\\s*\\.\\s*\\w+\\s*\\(")) {
            Checks.yes("rule 4: a function of " + owner, LIBRARY_CLASSES.contains(owner));
        }
        Checks.no("rule 10: texts joined by +", holds(code, "\"\\s*\\+|\\+\\s*\""));
    }

    private static void rule5NoInitialiser(String code) {
        Checks.no("rule 5: a static initialiser", holds(code, "\\bstatic\\s*\\{"));
        for (Class<?> each : classes()) {
            for (Field field : each.getDeclaredFields()) {
                int marks = field.getModifiers();
                Checks.yes("rule 5: " + field + " is final, if static",
                        !Modifier.isStatic(marks) || Modifier.isFinal(marks));
            }
        }
    }

    private static void rule6Exceptions(String code) {
        List<String> thrown = all(code, "\\bthrow\\s+new\\s+(\\w+)\\s*\\((?:\"\")?\\)\\s*;");
        Checks.same("rule 6: throws of the form that is asked for", thrown.size(), all(code, "\\b(throw)\\b").size());
        for (String each : thrown) {
            Checks.yes("rule 6: throw of " + each, THROWN.contains(each));
        }
        Checks.no("the class needs no try", holds(code, "\\btry\\b"));
    }

    private static void rule11Sizes(String code) {
        Checks.yes("rule 11: classes", classes().size() <= MOST_CLASSES);
        for (Class<?> each : classes()) {
            int fields = 0;
            for (Field field : each.getDeclaredFields()) {
                fields += Modifier.isStatic(field.getModifiers()) ? 0 : 1;
            }
            Checks.yes("rule 11: fields of " + each.getName(), fields <= MOST_FIELDS);
            for (Method method : each.getDeclaredMethods()) {
                Checks.yes("rule 11: parameters of " + method, method.getParameterCount() <= MOST_PARAMETERS);
            }
        }
        membersAreShort(code);
    }

    /** A member begins on a line that is four blanks in and ends with a bracket there. */
    private static void membersAreShort(String code) {
        String[] lines = code.split("\n");
        int start = 0;
        for (int i = 0; i < lines.length; i++) {
            if (lines[i].equals("    }")) {
                Checks.yes("rule 11: lines of" + lines[start], i - start < MOST_LINES);
            } else if (lines[i].matches(" {4}\\S.*")) {
                start = i;
            }
        }
        Checks.yes("members were seen", start > 0);
    }

    private static Set<String> ownMethods() {
        Set<String> own = new HashSet<>();
        for (Class<?> each : classes()) {
            for (Method method : each.getDeclaredMethods()) {
                own.add(method.getName());
            }
        }
        return own;
    }

    private static List<Class<?>> classes() {
        List<Class<?>> all = new ArrayList<>(List.of(NameMerges.class.getDeclaredClasses()));
        all.add(NameMerges.class);
        return all;
    }

    private static boolean holds(String code, String pattern) {
        return Pattern.compile(pattern).matcher(code).find();
    }

    private static List<String> all(String code, String pattern) {
        List<String> all = new ArrayList<>();
        Matcher matcher = Pattern.compile(pattern).matcher(code);
        while (matcher.find()) {
            all.add(matcher.group(1));
        }
        return all;
    }
}
