import java.io.IOException;
import java.lang.reflect.Method;
import java.lang.reflect.Modifier;
import java.nio.file.DirectoryStream;
import java.nio.file.Files;
import java.nio.file.Path;
import java.util.List;

/** README.md's example is true, and the file names every call and every test. Run from the root. */
public final class ReadmeTest {
    private static final String ANSWER = "// ";

    private static List<String> lines = List.of();
    private static int told = 0;

    public static void main(String[] args) throws IOException {
        lines = Files.readAllLines(Path.of("README.md"));
        exampleIsTrue();
        Checks.same("answers of the example that are tested", told, answersInExample());
        everyCallIsNamed();
        everyTestIsNamed();
        Checks.end();
    }

    private static void exampleIsTrue() {
        NameMerges x = new NameMerges();
        int rome = x.name();
        says("int rome = x.name();", rome);
        int roma = x.name();
        says("int roma = x.name();", roma);
        int city = x.name();
        says("int city = x.name();", city);
        Checks.write(x, "rome");
        says("x.variant(rome, 0, 0, 100000);", x.variant(rome, 0, 0, 100000));
        Checks.write(x, "roma");
        says("x.variant(roma, 1, 0, 100000);", x.variant(roma, 1, 0, 100000));
        says("x.score(rome, roma);", x.score(rome, roma));
        says("x.candidates(5);", x.candidates(5));
        says("x.candidate(0, 0);", x.candidate(0, 0));
        says("x.candidate(0, 1);", x.candidate(0, 1));
        says("x.lost(5);", x.lost(5));
        says("x.decide(rome, roma, 1);", x.decide(rome, roma, 1));
        says("x.merge(rome, roma, 1200);", x.merge(rome, roma, 1200));
        says("x.as(roma, 1200);", x.as(roma, 1200));
        Checks.write(x, "roma");
        says("x.find(1200);", x.find(1200));
        says("x.found(0);", x.found(0));
        says("x.part(rome, roma, 1300);", x.part(rome, roma, 1300));
        says("x.as(roma, 1300);", x.as(roma, 1300));
        says("x.broader(city, rome);", x.broader(city, rome));
        says("x.covers(city, rome);", x.covers(city, rome));
        says("x.broader(rome, city);", x.broader(rome, city));
        says("x.outside(rome, 3, 4711);", x.outside(rome, 3, 4711));
        says("x.whose(3, 4711);", x.whose(3, 4711));
        says("x.count(3);", x.count(3));
    }

    private static void says(String call, Object answer) {
        told++;
        String said = "no such line";
        for (String line : lines) {
            if (line.startsWith(call) && line.contains(ANSWER)) {
                said = line.substring(line.indexOf(ANSWER) + ANSWER.length()).split("[ :,]")[0];
            }
        }
        Checks.text(call, said, String.valueOf(answer));
    }

    private static int answersInExample() {
        int answers = 0;
        for (String line : lines) {
            if (line.contains("; ") && line.contains(ANSWER)) {
                answers++;
            }
        }
        return answers;
    }

    private static void everyCallIsNamed() {
        for (Method method : NameMerges.class.getDeclaredMethods()) {
            if (Modifier.isPublic(method.getModifiers())) {
                Checks.yes(method.getName() + " is in the table", names("`" + method.getName() + "("));
            }
        }
    }

    private static void everyTestIsNamed() throws IOException {
        try (DirectoryStream<Path> files = Files.newDirectoryStream(Path.of("src/test/java"), "*.java")) {
            for (Path file : files) {
                String test = file.getFileName().toString().replace(".java", "");
                Checks.yes(test + " is named", names("`" + test + "`") || names("`" + test + ".java`"));
            }
        }
    }

    private static boolean names(String what) {
        return String.join("\n", lines).contains(what);
    }
}
