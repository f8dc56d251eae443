import java.io.IOException;
import java.lang.reflect.Constructor;
import java.lang.reflect.Field;
import java.lang.reflect.Method;
import java.lang.reflect.Modifier;
import java.nio.file.Files;
import java.nio.file.Path;
import java.util.Arrays;
import java.util.List;
import java.util.TreeSet;
import java.util.stream.Collectors;

/** The public face is the document's, and the class keeps to the rules 1, 3, 5 and 6 of the language. */
public final class FaceTest {
    private static final Path DOCUMENT = Path.of("../shared/DOC.md");
    private static final Path PROGRAM = Path.of("src/main/java/Quizspool.java");

    public static void main(String[] args) throws IOException {
        Checks.due("the methods of the face", documentsMethods(), FaceTest::publicMethods);
        Checks.due("a public final class", Modifier.PUBLIC | Modifier.FINAL,
                () -> Quizspool.class.getModifiers());
        Checks.due("one public constructor without arguments", "public Quizspool()",
                () -> Arrays.stream(Quizspool.class.getDeclaredConstructors())
                        .map(Constructor::toString).collect(Collectors.joining()));
        Checks.due("members that neither are private nor of the face", "", FaceTest::openMembers);
        Checks.due("private methods with names of public ones", "", FaceTest::doubledNames);
        Checks.due("static fields that are not final", "", FaceTest::changingStatics);
        Checks.due("inner classes that are not static or are public", "", FaceTest::openClasses);
        String program = Files.readString(PROGRAM);
        for (String word : List.of("catch", "finally", "synchronized", "assert ", "->", "::", "package ",
                "System.out", "Exact", "Object ", "instanceof", "protected")) {
            Checks.due("the program has " + word, false, () -> program.contains(word));
        }
        Checks.finish("FaceTest");
    }

    private static TreeSet<String> documentsMethods() throws IOException {
        TreeSet<String> methods = new TreeSet<>();
        for (String line : Files.readAllLines(DOCUMENT)) {
            String told = line.trim();
            if (line.startsWith("    public ") && !told.equals("public Quizspool();")) {
                String face = told.replace("public ", "").replace(";", "");
                String[] parts = face.split(" throws ");
                methods.add(parts[0].replaceAll("(int|char|boolean) \\w+([,)])", "$1$2")
                        + " throws " + sorted(parts.length < 2 ? "" : parts[1]));
            }
        }
        return methods;
    }

    private static String sorted(String names) {
        return new TreeSet<>(Arrays.asList(names.split(", "))).toString();
    }

    private static TreeSet<String> publicMethods() {
        TreeSet<String> methods = new TreeSet<>();
        for (Method method : Quizspool.class.getDeclaredMethods()) {
            if (Modifier.isPublic(method.getModifiers())) {
                methods.add(method.getReturnType() + " " + method.getName() + "("
                        + names(method.getParameterTypes()).replace(",", ", ") + ") throws "
                        + sorted(names(method.getExceptionTypes()).replace(",", ", ")));
            }
        }
        return methods;
    }

    private static String names(Class<?>[] types) {
        return Arrays.stream(types).map(Class::getSimpleName).collect(Collectors.joining(","));
    }

    private static String openMembers() {
        StringBuilder found = new StringBuilder();
        for (Field field : Quizspool.class.getDeclaredFields()) {
            if (!Modifier.isPrivate(field.getModifiers())) {
                found.append(field.getName()).append(' ');
            }
        }
        for (Method method : Quizspool.class.getDeclaredMethods()) {
            if (!Modifier.isPublic(method.getModifiers()) && !Modifier.isPrivate(method.getModifiers())) {
                found.append(method.getName()).append(' ');
            }
        }
        return found.toString();
    }

    private static String doubledNames() {
        TreeSet<String> face = new TreeSet<>();
        for (Method method : Quizspool.class.getDeclaredMethods()) {
            if (Modifier.isPublic(method.getModifiers())) {
                face.add(method.getName());
            }
        }
        StringBuilder found = new StringBuilder();
        for (Class<?> owner : classes()) {
            for (Method method : owner.getDeclaredMethods()) {
                if (!Modifier.isPublic(method.getModifiers()) && face.contains(method.getName())) {
                    found.append(method.getName()).append(' ');
                }
            }
        }
        return found.toString();
    }

    private static String changingStatics() {
        StringBuilder found = new StringBuilder();
        for (Class<?> owner : classes()) {
            for (Field field : owner.getDeclaredFields()) {
                int modifiers = field.getModifiers();
                if (Modifier.isStatic(modifiers) && !Modifier.isFinal(modifiers)) {
                    found.append(field.getName()).append(' ');
                }
            }
        }
        return found.toString();
    }

    private static String openClasses() {
        return Arrays.stream(Quizspool.class.getDeclaredClasses())
                .filter(c -> !Modifier.isStatic(c.getModifiers()) || Modifier.isPublic(c.getModifiers()))
                .map(Class::getName).collect(Collectors.joining(" "));
    }

    private static List<Class<?>> classes() {
        List<Class<?>> all = new java.util.ArrayList<>(
                Arrays.asList(Quizspool.class.getDeclaredClasses()));
        all.add(Quizspool.class);
        return all;
    }
}
