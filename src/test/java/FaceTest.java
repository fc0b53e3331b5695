import java.lang.reflect.Constructor;
import java.lang.reflect.Field;
import java.lang.reflect.Method;
import java.lang.reflect.Modifier;
import java.util.ArrayList;
import java.util.Arrays;
import java.util.Collections;
import java.util.List;

/** The public face is the document's, and nothing else of the class can be seen from outside. */
public final class FaceTest {
    private static final String[] FACE = {
        "as(int,int):int throws IndexOutOfBoundsException IllegalArgumentException",
        "broader(int,int):int throws IndexOutOfBoundsException",
        "candidate(int,int):int throws IndexOutOfBoundsException",
        "candidates(int):int throws",
        "clear():int throws",
        "count(int):int throws IndexOutOfBoundsException",
        "covers(int,int):boolean throws IndexOutOfBoundsException",
        "dates(int,int,int):boolean throws IndexOutOfBoundsException IllegalArgumentException",
        "decide(int,int,int):int throws IndexOutOfBoundsException IllegalArgumentException",
        "find(int):int throws IllegalArgumentException",
        "found(int):int throws IndexOutOfBoundsException",
        "lost(int):boolean throws",
        "merge(int,int,int):int throws IndexOutOfBoundsException IllegalStateException IllegalArgumentException",
        "name():int throws IllegalStateException",
        "outside(int,int,int):boolean throws IndexOutOfBoundsException IllegalArgumentException",
        "part(int,int,int):boolean throws IndexOutOfBoundsException IllegalArgumentException",
        "score(int,int):int throws IndexOutOfBoundsException",
        "unit(int):int throws IllegalStateException IllegalArgumentException",
        "variant(int,int,int,int):int throws IndexOutOfBoundsException IllegalStateException IllegalArgumentException",
        "whose(int,int):int throws IndexOutOfBoundsException",
    };

    public static void main(String[] args) {
        Class<?> face = NameMerges.class;
        Checks.yes("public and final", Modifier.isPublic(face.getModifiers()) && Modifier.isFinal(face.getModifiers()));
        methodsAreTheDocuments(face);
        fieldsAndConstructors(face);
        nestedClassesAreHidden(face);
        Checks.end();
    }

    private static void methodsAreTheDocuments(Class<?> face) {
        List<String> seen = new ArrayList<>();
        List<String> open = new ArrayList<>();
        List<String> hidden = new ArrayList<>();
        for (Method method : face.getDeclaredMethods()) {
            if (Modifier.isPrivate(method.getModifiers())) {
                hidden.add(method.getName());
            } else {
                open.add(method.getName());
                seen.add(told(method));
            }
        }
        Collections.sort(seen);
        Checks.text("methods", String.join("\n", seen), String.join("\n", Arrays.asList(FACE)));
        Checks.yes("no private method has a public one's name", Collections.disjoint(open, hidden));
    }

    private static String told(Method method) {
        StringBuilder told = new StringBuilder(method.getName()).append('(');
        String comma = "";
        for (Class<?> type : method.getParameterTypes()) {
            told.append(comma).append(type.getSimpleName());
            comma = ",";
        }
        told.append("):").append(method.getReturnType().getSimpleName()).append(" throws");
        for (Class<?> type : method.getExceptionTypes()) {
            told.append(' ').append(type.getSimpleName());
        }
        return told.toString();
    }

    private static void fieldsAndConstructors(Class<?> face) {
        for (Field field : face.getDeclaredFields()) {
            int marks = field.getModifiers();
            if (field.getName().equals("NONE")) {
                Checks.yes("NONE is a public constant",
                        Modifier.isPublic(marks) && Modifier.isStatic(marks) && Modifier.isFinal(marks));
            } else {
                Checks.yes(field.getName() + " is private", Modifier.isPrivate(marks));
            }
            Checks.yes(field.getName() + ": static ones are final", !Modifier.isStatic(marks) || Modifier.isFinal(marks));
        }
        Constructor<?>[] constructors = face.getDeclaredConstructors();
        Checks.same("constructors", constructors.length, 1);
        Checks.yes("it is public", Modifier.isPublic(constructors[0].getModifiers()));
        Checks.same("it takes nothing", constructors[0].getParameterCount(), 0);
    }

    private static void nestedClassesAreHidden(Class<?> face) {
        for (Class<?> nested : face.getDeclaredClasses()) {
            int marks = nested.getModifiers();
            Checks.yes(nested.getName() + " is hidden", !Modifier.isPublic(marks) && !Modifier.isProtected(marks));
            Checks.yes(nested.getName() + " is static", Modifier.isStatic(marks));
        }
    }
}
