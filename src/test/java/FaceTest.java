import java.io.IOException;
import java.lang.reflect.Constructor;
import java.lang.reflect.Field;
import java.lang.reflect.Method;
import java.lang.reflect.Modifier;
import java.nio.file.Files;
import java.nio.file.Path;
import java.util.ArrayList;
import java.util.List;
import java.util.TreeSet;

/** The class has the document's face and nothing more, and keeps off what LANGUAGE.md leaves out. */
public final class FaceTest {
    private static final Path DOCUMENT = Path.of("../shared/DOC.md");
    private static final Path PROGRAM = Path.of("src/main/java/TwinHashTables.java");
    private static final String[] LEFT_OUT = {
        "\\bpackage\\b", "\\bimport (?!java\\.util\\.(ArrayList|List|Arrays|Iterator|NoSuchElementException);)",
        "\\bprotected\\b", "static \\{", "::", "\\bfinally\\b", "\\bsynchronized\\b", "\\bassert\\b", "\\bhashCode\\b",
        "\\bSystem\\.(?!arraycopy\\b)", "Exact\\(", "\\bThread\\b", "\\brandom\\b", "\\bgetMessage\\b",
        "catch \\([^)]*(Throwable|\\bException|RuntimeException|NullPointer|ArrayIndex|ClassCast|NegativeArray|ArrayStore)",
    };

    public static void main(String[] args) throws IOException {
        Checks checks = new Checks();
        faceIsTheDocuments(checks);
        nothingElseIsOpen(checks);
        privateNamesAreTheirOwn(checks);
        programIsPlain(checks);
        checks.end("FaceTest");
    }

    private static void faceIsTheDocuments(Checks checks) throws IOException {
        TreeSet<String> due = new TreeSet<>();
        for (String line : Files.readAllLines(DOCUMENT)) {
            if (line.startsWith("    public ")) {
                due.add(line.strip());
            }
        }
        TreeSet<String> got = new TreeSet<>();
        for (Constructor<?> constructor : TwinHashTables.class.getConstructors()) {
            got.add("public TwinHashTables(" + "?".repeat(constructor.getParameterCount()) + ");");
        }
        for (Method method : TwinHashTables.class.getDeclaredMethods()) {
            if (Modifier.isPublic(method.getModifiers())) {
                got.add(withoutParameterNames(method));
            }
        }
        TreeSet<String> dueWithoutNames = new TreeSet<>();
        for (String line : due) {
            dueWithoutNames.add(line.replaceAll("int \\w+([,)])", "int$1"));
        }
        checks.due("calls of the document", due.size(), 35);
        checks.due("face", got, dueWithoutNames);
        checks.due("modifiers", Modifier.toString(TwinHashTables.class.getModifiers()), "public final");
    }

    private static String withoutParameterNames(Method method) {
        List<String> parameters = new ArrayList<>();
        for (Class<?> type : method.getParameterTypes()) {
            parameters.add(type.getSimpleName());
        }
        List<String> exceptions = new ArrayList<>();
        for (Class<?> type : method.getExceptionTypes()) {
            exceptions.add(type.getSimpleName());
        }
        return "public " + method.getReturnType() + " " + method.getName() + "(" + String.join(", ", parameters) + ")"
            + (exceptions.isEmpty() ? "" : " throws " + String.join(", ", exceptions)) + ";";
    }

    private static void nothingElseIsOpen(Checks checks) {
        for (Field field : TwinHashTables.class.getDeclaredFields()) {
            checks.due("private " + field.getName(), Modifier.isPrivate(field.getModifiers()), true);
            checks.due("final if static: " + field.getName(),
                Modifier.isFinal(field.getModifiers()) || !Modifier.isStatic(field.getModifiers()), true);
        }
        for (Method method : TwinHashTables.class.getDeclaredMethods()) {
            int modifiers = method.getModifiers();
            checks.due("public or private " + method.getName(),
                Modifier.isPublic(modifiers) || Modifier.isPrivate(modifiers), true);
        }
    }

    private static void privateNamesAreTheirOwn(Checks checks) {
        TreeSet<String> face = new TreeSet<>();
        for (Method method : TwinHashTables.class.getDeclaredMethods()) {
            if (Modifier.isPublic(method.getModifiers())) {
                face.add(method.getName());
            }
        }
        List<Method> inside = new ArrayList<>(List.of(TwinHashTables.class.getDeclaredMethods()));
        for (Class<?> type : TwinHashTables.class.getDeclaredClasses()) {
            checks.due("static " + type, Modifier.isStatic(type.getModifiers()), true);
            inside.addAll(List.of(type.getDeclaredMethods()));
        }
        for (Method method : inside) {
            if (Modifier.isPrivate(method.getModifiers())) {
                checks.due("own name " + method.getName(), face.contains(method.getName()), false);
            }
        }
    }

    private static void programIsPlain(Checks checks) throws IOException {
        String code = Files.readString(PROGRAM).replaceAll("(?s)/\\*.*?\\*/", "").replaceAll("//[^\n]*", "");
        for (String sign : LEFT_OUT) {
            checks.due("the program is free of " + sign, code.matches("(?s).*(" + sign + ").*"), false);
        }
        checks.due("signs are 1 to 127", code.chars().allMatch(sign -> sign >= 1 && sign <= 127), true);
    }
}
