import java.io.IOException;
import java.lang.reflect.Constructor;
import java.lang.reflect.Field;
import java.lang.reflect.Method;
import java.lang.reflect.Modifier;
import java.nio.file.Files;
import java.nio.file.Path;
import java.util.Arrays;
import java.util.List;
import java.util.Set;
import java.util.TreeSet;

/** The document's face: all of it is there, and nothing else can be seen. */
public final class FaceTest {
    private static final List<String> METHODS = List.of(
        "thing()", "list(III)", "mark(III)", "unmark(II)", "weigh(II)", "rule(I)", "about(II)", "row(II)",
        "place(III)", "total(I)", "best(I)", "begin(III)", "round()", "finish()", "reader(I)", "depth(II)",
        "known(II)", "bound(II)", "ahead(II)", "found(I)", "enough(IIIII)", "least(I)", "leastDepth(I)", "count(I)");
    private static final Checks checks = new Checks("FaceTest");

    public static void main(String[] args) throws IOException {
        constants();
        methods();
        nothingElseIsSeen();
        classesInside();
        sameAsInTheDocument(Path.of(System.getProperty("document", "../shared/DOC.md")),
            Path.of(System.getProperty("source", "src/main/java/JudgesLists.java")));
        checks.end();
    }

    private static void constants() {
        checks.due("NONE", JudgesLists.NONE, -1);
        checks.due("BAD", JudgesLists.BAD, -2);
        checks.due("STATE", JudgesLists.STATE, -3);
        checks.due("FULL", JudgesLists.FULL, -4);
    }

    private static void methods() {
        Set<String> seen = new TreeSet<>();
        for (Method method : JudgesLists.class.getMethods()) {
            if (method.getDeclaringClass() == JudgesLists.class) {
                checks.holds(method.getName() + " answers int", method.getReturnType() == int.class);
                checks.holds(method.getName() + " takes ints",
                    Arrays.stream(method.getParameterTypes()).allMatch(type -> type == int.class));
                seen.add(method.getName() + "(" + "I".repeat(method.getParameterCount()) + ")");
            }
        }
        checks.holds("the methods are those of the document: " + seen, seen.equals(new TreeSet<>(METHODS)));
    }

    private static void nothingElseIsSeen() {
        Class<?> type = JudgesLists.class;
        checks.holds("public and final", Modifier.isPublic(type.getModifiers()) && Modifier.isFinal(type.getModifiers()));
        Constructor<?>[] constructors = type.getDeclaredConstructors();
        checks.holds("one public constructor, without arguments", constructors.length == 1
            && Modifier.isPublic(constructors[0].getModifiers()) && constructors[0].getParameterCount() == 0);
        for (Method method : type.getDeclaredMethods()) {
            int how = method.getModifiers();
            checks.holds(method.getName() + " is public or private", Modifier.isPublic(how) || Modifier.isPrivate(how));
        }
        Set<String> open = Set.of("NONE", "BAD", "STATE", "FULL");
        for (Field field : type.getDeclaredFields()) {
            boolean isOpen = open.contains(field.getName());
            checks.holds(field.getName() + " is seen only if it is of the face",
                isOpen ? Modifier.isPublic(field.getModifiers()) : Modifier.isPrivate(field.getModifiers()));
        }
    }

    private static void classesInside() {
        Set<String> names = new TreeSet<>();
        METHODS.forEach(method -> names.add(method.substring(0, method.indexOf('('))));
        for (Class<?> inside : JudgesLists.class.getDeclaredClasses()) {
            checks.holds(inside.getSimpleName() + " is static", Modifier.isStatic(inside.getModifiers()));
            checks.holds(inside.getSimpleName() + " has some twenty fields at most", inside.getDeclaredFields().length <= 20);
            for (Method method : inside.getDeclaredMethods()) {
                checks.holds(method.getName() + " bears no name of the face", !names.contains(method.getName()));
            }
        }
        for (Method method : JudgesLists.class.getDeclaredMethods()) {
            checks.holds(method.getName() + " bears no name of the face",
                Modifier.isPublic(method.getModifiers()) || !names.contains(method.getName()));
        }
    }

    /** Each line of the document's code block stands in the class, in the same order, and no other one is public. */
    private static void sameAsInTheDocument(Path document, Path source) throws IOException {
        if (!Files.isReadable(document)) {
            System.out.println("FaceTest: " + document + " cannot be read: the face is not compared with it");
            return;
        }
        String text = Files.readString(document);
        int from = text.indexOf("```java\n") + "```java\n".length();
        List<String> due = publicLines(text.substring(from, text.indexOf("```", from)));
        List<String> got = publicLines(Files.readString(source));
        checks.due("lines of the face", got.size(), due.size());
        for (int i = 0; i < Math.min(got.size(), due.size()); i++) {
            checks.holds("\"" + got.get(i) + "\" is \"" + due.get(i) + "\" in the document", got.get(i).equals(due.get(i)));
        }
    }

    /** What begins a body or ends a line is left out: "{" here is ";" there. */
    private static List<String> publicLines(String text) {
        return text.lines().map(String::strip).filter(line -> line.startsWith("public "))
            .map(line -> line.replaceAll("\\s*[;{]$", "")).toList();
    }
}
