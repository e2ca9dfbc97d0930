import java.io.IOException;
import java.lang.reflect.Constructor;
import java.lang.reflect.Method;
import java.lang.reflect.Modifier;
import java.nio.file.Files;
import java.nio.file.Path;
import java.util.ArrayList;
import java.util.List;
import java.util.Set;
import java.util.TreeSet;

/** The class has the face of the document and nothing else, and keeps to what a look can tell of LANGUAGE.md. */
public final class FaceTest {
    private static final Path SOURCE = Path.of("src/main/java/Leastreader.java");
    private static final Path DOCUMENT = Path.of("../shared/DOC.md");

    private static final List<String> wrong = new ArrayList<>();

    public static void main(String[] args) throws IOException {
        checkFace();
        checkNames();
        checkWords();
        checkMethods();
        wrong.forEach(System.out::println);
        System.out.println("FaceTest: " + wrong.size() + " wrong");
        if (!wrong.isEmpty()) {
            System.exit(1);
        }
    }

    /** The signatures that stand in the document, against those that the class has. */
    private static void checkFace() throws IOException {
        Set<String> due = new TreeSet<>();
        for (String line : Files.readAllLines(DOCUMENT)) {
            if (line.startsWith("    public ")) {
                due.add(line.strip().replace(";", ""));
            }
        }
        Set<String> got = new TreeSet<>();
        for (Constructor<?> constructor : Leastreader.class.getDeclaredConstructors()) {
            got.add(Modifier.toString(constructor.getModifiers()) + " Leastreader()");
        }
        for (Method method : Leastreader.class.getDeclaredMethods()) {
            if (!Modifier.isPrivate(method.getModifiers())) {
                got.add(signature(method));
            }
        }
        due.removeIf(line -> line.contains("final class"));
        Set<String> named = new TreeSet<>();
        for (String line : due) {
            named.add(line.replaceAll("(int|boolean) \\w+([,)])", "$1$2"));
        }
        if (!named.equals(got)) {
            wrong.add("the face is " + got + ", the document's is " + named);
        }
        if (Leastreader.class.getModifiers() != (Modifier.PUBLIC | Modifier.FINAL)) {
            wrong.add("the class is not public and final");
        }
        if (Leastreader.class.getFields().length != 0) {
            wrong.add("the class has public fields");
        }
    }

    private static String signature(Method method) {
        StringBuilder line = new StringBuilder(Modifier.toString(method.getModifiers())).append(' ')
                .append(method.getReturnType().getSimpleName()).append(' ').append(method.getName()).append('(');
        for (int k = 0; k < method.getParameterCount(); k++) {
            line.append(k == 0 ? "" : ", ").append(method.getParameterTypes()[k].getSimpleName());
        }
        line.append(')');
        for (int k = 0; k < method.getExceptionTypes().length; k++) {
            line.append(k == 0 ? " throws " : ", ").append(method.getExceptionTypes()[k].getSimpleName());
        }
        return line.toString();
    }

    private static void checkNames() {
        Set<String> face = new TreeSet<>();
        for (Method method : Leastreader.class.getDeclaredMethods()) {
            if (Modifier.isPublic(method.getModifiers())) {
                face.add(method.getName());
            }
        }
        List<Class<?>> classes = new ArrayList<>(List.of(Leastreader.class.getDeclaredClasses()));
        if (classes.size() > 11) {
            wrong.add("there are " + classes.size() + " classes inside");
        }
        classes.add(Leastreader.class);
        for (Class<?> type : classes) {
            for (Method method : type.getDeclaredMethods()) {
                if (!Modifier.isPublic(method.getModifiers()) && face.contains(method.getName())) {
                    wrong.add(type.getName() + " has a method with the face's name " + method.getName());
                }
                if (method.getParameterCount() > 7) {
                    wrong.add(method.getName() + " takes more than 7 parameters");
                }
            }
        }
    }

    private static void checkWords() throws IOException {
        int number = 0;
        for (String line : Files.readAllLines(SOURCE)) {
            number++;
            String code = line.strip();
            if (code.startsWith("*") || code.startsWith("/*") || code.startsWith("//")) {
                continue;
            }
            if (code.matches(".*(\\b(import|package|catch|finally|synchronized|assert|instanceof|var|double|float"
                    + "|toString\\(\\w|hashCode|Exact)\\b|->|::|@|\"\\s*\\+|\\+\\s*\").*")) {
                wrong.add("line " + number + ": " + code);
            }
        }
    }

    /** No method is longer than 60 lines. */
    private static void checkMethods() throws IOException {
        int number = 0;
        int begun = 0;
        for (String line : Files.readAllLines(SOURCE)) {
            number++;
            if (line.matches("( {4}| {8})\\S.*\\{") && !line.contains(" class ")) {
                begun = number;
            }
            if (line.matches("( {4}| {8})}") && begun > 0) {
                if (number - begun > 60) {
                    wrong.add("the method at line " + begun + " is too long");
                }
                begun = 0;
            }
        }
    }
}
