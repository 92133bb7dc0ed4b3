import java.io.IOException;
import java.io.StringWriter;
import java.lang.reflect.Method;
import java.lang.reflect.Modifier;
import java.net.URL;
import java.net.URLClassLoader;
import java.nio.charset.StandardCharsets;
import java.nio.file.Files;
import java.nio.file.Path;
import java.util.ArrayList;
import java.util.List;
import java.util.Set;
import java.util.TreeSet;
import java.util.regex.Matcher;
import java.util.regex.Pattern;
import java.util.stream.Stream;
import javax.tools.JavaCompiler;
import javax.tools.StandardJavaFileManager;
import javax.tools.ToolProvider;

/** README.md: its Java blocks are compiled and run, each answer is that which stands behind the call. */
public final class ReadmeTest {
    private static final Path PAGE = Path.of("README.md");
    private static final Path TESTS = Path.of("src/test/java");
    private static final Pattern BLOCK = Pattern.compile("```java\n(.*?)```", Pattern.DOTALL);
    private static final Pattern ANSWERED = Pattern.compile("(\\S.*);\\s+// (-?[0-9]+(?:\\.[0-9]+)?|true|false)(?::.*)?");
    private static final Pattern FED = Pattern.compile("x\\.feed\\((.*)\\);\\s+// 20: the bytes of \"(.*)\" and five more");

    private ReadmeTest() {
    }

    public static void main(String[] args) throws Exception {
        String page = Files.readString(PAGE);
        List<String> blocks = new ArrayList<>();
        Matcher m = BLOCK.matcher(page);
        while (m.find()) {
            blocks.add(m.group(1));
        }
        Due.is("there are blocks", blocks.size() >= 5, true);
        run(source(blocks));
        fed(page);
        calls(page);
        refusals();
        tests(page);
        Due.end();
    }

    /** A block that begins with static is a method; each other one is run by itself. */
    private static String source(List<String> blocks) {
        StringBuilder methods = new StringBuilder();
        StringBuilder main = new StringBuilder();
        for (String block : blocks) {
            if (block.startsWith("static ")) {
                methods.append(block);
                continue;
            }
            main.append("{\n");
            for (String line : block.split("\n")) {
                Matcher m = ANSWERED.matcher(line);
                boolean made = line.equals("LiftedChecks x = new LiftedChecks();");
                Due.is("an answer stands behind: " + line, made || m.matches(), true);
                main.append(made ? line : m.matches() ? asked(m.group(1), m.group(2)) : "").append('\n');
            }
            main.append("}\n");
        }
        return "public final class Shown {\nprivate static final StringBuilder WRONG = new StringBuilder();\n" + methods
            + "public static String shown() {\n" + main + "return WRONG.toString();\n}\n"
            + "static void due(String call, Object got, String want) {\nif (!got.toString().equals(want)) {\n"
            + "WRONG.append(call + \" answered \" + got + \", README.md says \" + want + \"\\n\");\n}\n}\n}\n";
    }

    private static String asked(String call, String answer) {
        return "due(\"" + call.replace("\"", "\\\"") + "\", " + call + ", \"" + answer + "\");";
    }

    private static void run(String source) throws Exception {
        Path place = Files.createTempDirectory("readme");
        try {
            Path file = Files.writeString(place.resolve("Shown.java"), source);
            JavaCompiler compiler = ToolProvider.getSystemJavaCompiler();
            StringWriter said = new StringWriter();
            boolean compiled;
            try (StandardJavaFileManager files = compiler.getStandardFileManager(null, null, null)) {
                List<String> options = List.of("-d", place.toString(), "-cp", System.getProperty("java.class.path"));
                compiled = compiler.getTask(said, files, null, options, null, files.getJavaFileObjects(file)).call();
            }
            Due.is("README.md compiles: " + said, compiled, true);
            if (compiled) {
                call(place);
            }
        } finally {
            remove(place);
        }
    }

    private static void call(Path place) throws Exception {
        try (URLClassLoader loader = new URLClassLoader(new URL[] {place.toUri().toURL()})) {
            String wrong = (String) loader.loadClass("Shown").getMethod("shown").invoke(null);
            Due.is(wrong + "README.md shows what is", wrong.isEmpty(), true);
        }
    }

    private static void remove(Path place) throws IOException {
        try (Stream<Path> files = Files.list(place)) {
            for (Path file : (Iterable<Path>) files::iterator) {
                Files.delete(file);
            }
        }
        Files.delete(place);
    }

    /** The numbers that are shown hold the bytes that are told behind them. */
    private static void fed(String page) {
        Matcher m = FED.matcher(page);
        Due.is("numbers are shown with their bytes", m.find(), true);
        StringBuilder bytes = new StringBuilder();
        for (String number : m.group(1).split(", ")) {
            int four = Integer.decode(number);
            for (int down = 24; down >= 0; down -= 8) {
                bytes.append((char) (four >> down & 255));
            }
        }
        String text = m.group(2);
        Due.is("bytes of " + text, bytes.substring(0, text.length()).equals(text) && text.length() == 15, true);
    }

    private static void calls(String page) {
        Set<String> told = new TreeSet<>();
        String list = page.substring(page.indexOf("## All calls"), page.indexOf("No call ever throws"));
        Matcher m = Pattern.compile("`(\\w+)`").matcher(list);
        while (m.find()) {
            told.add(m.group(1));
        }
        Set<String> there = new TreeSet<>();
        for (Method method : LiftedChecks.class.getDeclaredMethods()) {
            if (Modifier.isPublic(method.getModifiers())) {
                there.add(method.getName());
            }
        }
        Due.is("README.md names " + told + ", there are " + there, told.equals(there), true);
    }

    /** What README.md says of refused calls, looked at with what no call can take. */
    private static void refusals() throws Exception {
        int no = Integer.MIN_VALUE;
        for (Method method : LiftedChecks.class.getDeclaredMethods()) {
            int many = method.getParameterCount();
            if (!Modifier.isPublic(method.getModifiers()) || many == 0 || method.getName().equals("feed")) {
                continue;
            }
            Object[] args = new Object[many];
            for (int i = 0; i < many; i++) {
                args[i] = method.getParameterTypes()[i] == long.class ? (Object) Long.MIN_VALUE : (Object) no;
            }
            Object answer = method.invoke(new LiftedChecks(), args);
            Due.is(method.getName() + " refuses with " + answer, answer.toString().equals(refusal(method)), true);
        }
    }

    private static String refusal(Method method) {
        if (method.getReturnType() == boolean.class) {
            return "false";
        }
        switch (method.getName()) {
            case "shift": case "book": case "about": return "-2";
            case "bit": case "message": case "believed": return "-100";
            case "least": case "weakest": return "0";
            default: return "-1";
        }
    }

    private static void tests(String page) throws IOException {
        try (Stream<Path> files = Files.list(TESTS)) {
            for (Path file : (Iterable<Path>) files::iterator) {
                String name = file.getFileName().toString().replace(".java", "");
                if (name.endsWith("Test")) {
                    Due.is("README.md names " + name, page.contains("`" + name + "`"), true);
                }
            }
        }
        Matcher m = Pattern.compile("`(\\w+Test)`").matcher(page);
        while (m.find()) {
            Due.is("there is " + m.group(1), Files.exists(TESTS.resolve(m.group(1) + ".java")), true);
        }
        Due.is("README.md is plain", StandardCharsets.US_ASCII.newEncoder().canEncode(page), true);
    }
}
