import java.io.IOException;
import java.lang.reflect.Constructor;
import java.lang.reflect.Field;
import java.lang.reflect.Method;
import java.lang.reflect.Modifier;
import java.nio.charset.StandardCharsets;
import java.nio.file.Files;
import java.nio.file.Path;
import java.util.ArrayList;
import java.util.Collections;
import java.util.List;
import java.util.regex.Matcher;
import java.util.regex.Pattern;

/** The public face is the document's, and the file keeps to the rules that can be seen in it. */
final class FaceTest {
    private static final Path DOCUMENT = Path.of("../shared/DOC.md");
    private static final Path SOURCE = Path.of("src/main/java/PieceDeposits.java");

    private FaceTest() {
    }

    static void run() throws IOException {
        sameFace();
        noOtherMembers();
        forbiddenSigns();
    }

    private static String read(Path path) throws IOException {
        return Files.readString(path, StandardCharsets.ISO_8859_1);
    }

    private static void sameFace() throws IOException {
        String text = read(DOCUMENT);
        Matcher m = Pattern.compile("    public int (\\w+)\\((.*?)\\)( throws [\\w, ]+)?;").matcher(
                text.replace("public boolean", "public int"));
        List<String> due = new ArrayList<>();
        while (m.find()) {
            int count = m.group(2).isEmpty() ? 0 : m.group(2).split(",").length;
            String errors = m.group(3) == null ? "" : m.group(3).substring(8);
            due.add(m.group(1) + " " + count + " " + errors);
        }
        List<String> got = new ArrayList<>();
        for (Method method : PieceDeposits.class.getDeclaredMethods()) {
            if (Modifier.isPublic(method.getModifiers())) {
                got.add(signature(method));
            }
        }
        Collections.sort(due);
        Collections.sort(got);
        Check.due("methods", due.size(), 32);
        Check.dueText("the face", got.toString(), due.toString());
    }

    private static String signature(Method method) {
        List<String> errors = new ArrayList<>();
        for (Class<?> error : method.getExceptionTypes()) {
            errors.add(error.getSimpleName());
        }
        boolean isBoolean = method.getName().equals("isWhole")
                || method.getName().equals("saveSnapshot");
        Check.dueText("type of " + method.getName(), method.getReturnType().getName(),
                isBoolean ? "boolean" : "int");
        return method.getName() + " " + method.getParameterCount() + " "
                + String.join(", ", errors);
    }

    private static void noOtherMembers() {
        Class<?> face = PieceDeposits.class;
        Check.due("public final", face.getModifiers(), Modifier.PUBLIC | Modifier.FINAL);
        for (Field field : face.getDeclaredFields()) {
            Check.due(field.getName() + " is private or NONE", field.getName().equals("NONE")
                    || Modifier.isPrivate(field.getModifiers()), true);
        }
        List<String> names = new ArrayList<>();
        for (Method method : face.getDeclaredMethods()) {
            if (Modifier.isPublic(method.getModifiers())) {
                names.add(method.getName());
            }
        }
        for (Method method : face.getDeclaredMethods()) {
            boolean open = Modifier.isPublic(method.getModifiers());
            Check.due(method.getName() + " is public or private", open
                    || Modifier.isPrivate(method.getModifiers()), true);
        }
        Constructor<?>[] constructors = face.getDeclaredConstructors();
        Check.due("constructors", constructors.length, 1);
        Check.due("public", Modifier.isPublic(constructors[0].getModifiers()), true);
        for (Class<?> inside : face.getDeclaredClasses()) {
            Check.due(inside.getName() + " is private and static", inside.getModifiers(),
                    Modifier.PRIVATE | Modifier.STATIC | Modifier.FINAL);
            for (Method method : inside.getDeclaredMethods()) {
                Check.due(method.getName() + " is no name of the face",
                        names.contains(method.getName()), false);
            }
        }
    }

    private static void forbiddenSigns() throws IOException {
        String source = read(SOURCE);
        String[] forbidden = {"->", "::", "Exact(", "catch", "finally", "synchronized", "assert ",
            "static {", "package ", "%", "instanceof", "System.out", "Random", "nanoTime",
            "currentTimeMillis", "java.io", "java.nio", "Thread", ".equals("};
        for (String sign : forbidden) {
            Check.due("the source holds " + sign, source.contains(sign), false);
        }
        Check.dueText("imports", imports(source), "import java.util.Arrays;");
        Check.due("signs are plain", source.chars().allMatch(c -> c == '\n' || c >= 32 && c < 127),
                true);
    }

    private static String imports(String source) {
        StringBuilder all = new StringBuilder();
        Matcher m = Pattern.compile("(?m)^import .*$").matcher(source);
        while (m.find()) {
            all.append(m.group());
        }
        return all.toString();
    }
}
