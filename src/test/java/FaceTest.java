import java.io.IOException;
import java.lang.reflect.Constructor;
import java.lang.reflect.Field;
import java.lang.reflect.Method;
import java.lang.reflect.Modifier;
import java.nio.file.Files;
import java.nio.file.Path;
import java.util.ArrayList;
import java.util.List;
import java.util.Set;
import java.util.TreeSet;
import java.util.regex.Matcher;
import java.util.regex.Pattern;

/** The face is that of the document, and the source keeps to those rules of LANGUAGE.md that a program can look at. */
public final class FaceTest {
    private static final Path DOCUMENT = Path.of("../shared/DOC.md");
    private static final Path SOURCE = Path.of("src/main/java/LiftedChecks.java");
    private static final String[] NOT_THERE = {"catch", "finally", "synchronized", "assert", "protected", "throw", "->", "::",
        "Exact(", "System.out", "hashCode", "toString", "Random", "Double", "Float", "float ", "double ", "record ", "instanceof"};

    private FaceTest() {
    }

    public static void main(String[] args) throws IOException {
        face();
        nested();
        source();
        Due.end();
    }

    private static void face() throws IOException {
        Set<String> due = new TreeSet<>();
        Matcher m = Pattern.compile("    public (int|long|boolean) (\\w+)\\(([^)]*)\\);").matcher(Files.readString(DOCUMENT));
        while (m.find()) {
            due.add(m.group(1) + " " + m.group(2) + "(" + m.group(3).replaceAll(" \\w+(,|$)", "$1") + ")");
        }
        Due.is("methods of the document", due.size(), 68);
        Set<String> names = new TreeSet<>();
        Set<String> there = new TreeSet<>();
        for (Method method : LiftedChecks.class.getDeclaredMethods()) {
            if (Modifier.isPublic(method.getModifiers())) {
                names.add(method.getName());
                List<String> types = new ArrayList<>();
                for (Class<?> type : method.getParameterTypes()) {
                    types.add(type.getName());
                }
                there.add(method.getReturnType() + " " + method.getName() + "(" + String.join(", ", types) + ")");
            } else {
                Due.is(method + " is private", Modifier.isPrivate(method.getModifiers()), true);
            }
        }
        Due.is("methods as told: " + there, there.equals(due), true);
        for (Class<?> inside : LiftedChecks.class.getDeclaredClasses()) {
            for (Method method : inside.getDeclaredMethods()) {
                Due.is(method + " has a name of the face", names.contains(method.getName()), false);
            }
        }
        for (Method method : LiftedChecks.class.getDeclaredMethods()) {
            Due.is(method + " has a name of the face", !Modifier.isPublic(method.getModifiers())
                && names.contains(method.getName()), false);
        }
        Constructor<?>[] makers = LiftedChecks.class.getDeclaredConstructors();
        Due.is("constructors", makers.length, 1);
        Due.is("the constructor is public", Modifier.isPublic(makers[0].getModifiers()), true);
        Due.is("the class is final", Modifier.isFinal(LiftedChecks.class.getModifiers()), true);
        for (Field field : LiftedChecks.class.getDeclaredFields()) {
            boolean face = field.getName().equals("NONE");
            Due.is(field + " is public", Modifier.isPublic(field.getModifiers()), face);
            Due.is(field + " is private", Modifier.isPrivate(field.getModifiers()), !face);
        }
    }

    private static void nested() {
        Class<?>[] inside = LiftedChecks.class.getDeclaredClasses();
        Due.is("classes are at most twelve", inside.length < 12, true);
        for (Class<?> one : inside) {
            Due.is(one + " is static", Modifier.isStatic(one.getModifiers()), true);
            int fields = 0;
            for (Field field : one.getDeclaredFields()) {
                boolean shared = Modifier.isStatic(field.getModifiers());
                fields += shared ? 0 : 1;
                Due.is(field + " is final", !shared || Modifier.isFinal(field.getModifiers()), true);
            }
            Due.is(one + " has at most twenty fields", fields <= 20, true);
            for (Method method : one.getDeclaredMethods()) {
                Due.is(method + " has at most seven parameters", method.getParameterCount() <= 7, true);
            }
        }
    }

    private static void source() throws IOException {
        String text = Files.readString(SOURCE);
        String code = text.replaceAll("(?s)/\\*.*?\\*/", "").replaceAll("//.*", "");
        for (String word : NOT_THERE) {
            Due.is("source has " + word, code.contains(word), false);
        }
        Matcher m = Pattern.compile("import ([^;]*);").matcher(code);
        while (m.find()) {
            Due.is("imports " + m.group(1), m.group(1).equals("java.util.Arrays"), true);
        }
        Due.is("signs are 1 to 127", text.chars().allMatch(sign -> sign > 0 && sign < 128), true);
        int since = 0;
        for (String line : text.split("\n")) {
            since = line.matches("    ( {4})?\\S.*\\) \\{") ? 0 : since + 1;
            Due.is("a method is too long at: " + line, line.matches("    ( {4})?}") && since > 60, false);
        }
    }
}
