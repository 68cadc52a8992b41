import java.io.IOException;
import java.lang.reflect.Constructor;
import java.lang.reflect.Field;
import java.lang.reflect.Method;
import java.lang.reflect.Modifier;
import java.nio.charset.StandardCharsets;
import java.nio.file.Files;
import java.nio.file.Path;
import java.util.ArrayList;
import java.util.Collections;
import java.util.List;
import java.util.regex.Matcher;
import java.util.regex.Pattern;

/** The public face is the document's, and the file keeps to the rules that can be seen in it. */
final class FaceTest {
    private static final Path DOCUMENT = Path.of("../shared/DOC.md");
    private static final Path SOURCE = Path.of("src/main/java/PieceDeposits.java");

    private FaceTest() {
    }

    static void run() throws IOException {
        sameFace();
        constantAndConstructor();
        noOtherMembers();
        namesOfTheFace();
        atMost7Parameters();
        forbiddenSigns();
        allowedImports();
    }

    private static String read(Path path) throws IOException {
        return Files.readString(path, StandardCharsets.ISO_8859_1);
    }

    private static void sameFace() throws IOException {
        Matcher m = Pattern.compile("    public (int|boolean) (\\w+)\\((.*?)\\)( throws [\\w, ]+)?;")
                .matcher(read(DOCUMENT));
        List<String> due = new ArrayList<>();
        while (m.find()) {
            String types = m.group(3).replaceAll(" \\w+(,|$)", "$1");
            due.add(m.group(1) + " " + m.group(2) + "(" + types + ")"
                    + (m.group(4) == null ? "" : m.group(4)));
        }
        List<String> got = new ArrayList<>();
        for (Method method : PieceDeposits.class.getDeclaredMethods()) {
            if (Modifier.isPublic(method.getModifiers())) {
                got.add(signature(method));
            }
        }
        Collections.sort(due);
        Collections.sort(got);
        Check.due("methods", due.size(), 32);
        Check.dueText("the face", got.toString(), due.toString());
    }

    private static String signature(Method method) {
        List<String> types = new ArrayList<>();
        for (Class<?> type : method.getParameterTypes()) {
            types.add(type.getName());
        }
        List<String> errors = new ArrayList<>();
        for (Class<?> error : method.getExceptionTypes()) {
            errors.add(error.getSimpleName());
        }
        return method.getReturnType().getName() + " " + method.getName() + "("
                + String.join(", ", types) + ")"
                + (errors.isEmpty() ? "" : " throws " + String.join(", ", errors));
    }

    private static void constantAndConstructor() {
        int constants = 0;
        for (Field field : PieceDeposits.class.getDeclaredFields()) {
            if (field.getName().equals("NONE")) {
                constants++;
                Check.due("NONE", field.getModifiers(),
                        Modifier.PUBLIC | Modifier.STATIC | Modifier.FINAL);
                Check.dueText("type of NONE", field.getType().getName(), "int");
            }
        }
        Check.due("NONE is there", constants, 1);
        Constructor<?>[] constructors = PieceDeposits.class.getDeclaredConstructors();
        Check.due("constructors", constructors.length, 1);
        Check.due("a public one", constructors[0].getModifiers(), Modifier.PUBLIC);
        Check.due("without parameters", constructors[0].getParameterCount(), 0);
        Check.due("nor exceptions", constructors[0].getExceptionTypes().length, 0);
    }

    /** No other public, protected or package-visible member, but for the classes inside. */
    private static void noOtherMembers() {
        Class<?> face = PieceDeposits.class;
        Check.due("public final", face.getModifiers(), Modifier.PUBLIC | Modifier.FINAL);
        Check.due("no class above it", face.getSuperclass() == Object.class, true);
        Check.due("no interfaces", face.getInterfaces().length, 0);
        for (Field field : face.getDeclaredFields()) {
            Check.due(field.getName() + " is private or NONE", field.getName().equals("NONE")
                    || Modifier.isPrivate(field.getModifiers()), true);
        }
        for (Method method : face.getDeclaredMethods()) {
            Check.due(method.getName() + " is public or private",
                    Modifier.isPublic(method.getModifiers())
                    || Modifier.isPrivate(method.getModifiers()), true);
        }
        for (Class<?> inside : face.getDeclaredClasses()) {
            int open = Modifier.PUBLIC | Modifier.PROTECTED;
            Check.due(inside.getName() + " is open", inside.getModifiers() & open, 0);
        }
    }

    /** No private method bears the name of a public one. */
    private static void namesOfTheFace() {
        List<String> names = new ArrayList<>();
        for (Method method : PieceDeposits.class.getDeclaredMethods()) {
            if (Modifier.isPublic(method.getModifiers())) {
                names.add(method.getName());
            }
        }
        for (Class<?> each : classes()) {
            for (Method method : each.getDeclaredMethods()) {
                if (Modifier.isPrivate(method.getModifiers())) {
                    Check.due(method.getName() + " is a name of the face",
                            names.contains(method.getName()), false);
                }
            }
        }
    }

    private static void atMost7Parameters() {
        for (Class<?> each : classes()) {
            for (Method method : each.getDeclaredMethods()) {
                Check.due("parameters of " + method.getName(), method.getParameterCount() <= 7,
                        true);
            }
        }
    }

    private static List<Class<?>> classes() {
        List<Class<?>> all = new ArrayList<>(List.of(PieceDeposits.class.getDeclaredClasses()));
        all.add(PieceDeposits.class);
        return all;
    }

    private static void forbiddenSigns() throws IOException {
        String source = read(SOURCE);
        String[] forbidden = {"->", "::", "Exact(", "finally", "synchronized", "assert ",
            "static {", "package ", "System.out", "Random", "nanoTime", "currentTimeMillis",
            "java.io", "java.nio", "Thread", "ArrayIndexOutOfBounds", "NullPointer",
            "ClassCastException", "NegativeArraySize", "ArrayStoreException", "Throwable"};
        for (String sign : forbidden) {
            Check.due("the source holds " + sign, source.contains(sign), false);
        }
        Check.due("signs are plain", source.chars().allMatch(c -> c == '\n' || c >= 32 && c < 127),
                true);
    }

    /** The library's classes that stand in ../shared/LANGUAGE.md. */
    private static void allowedImports() throws IOException {
        List<String> allowed = List.of("java.util.Arrays", "java.util.ArrayList", "java.util.List",
                "java.util.Iterator", "java.util.NoSuchElementException");
        Matcher m = Pattern.compile("(?m)^import (.*);").matcher(read(SOURCE));
        while (m.find()) {
            Check.due("import of " + m.group(1), allowed.contains(m.group(1)), true);
        }
    }
}
