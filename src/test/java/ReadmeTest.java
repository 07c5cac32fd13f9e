import java.lang.reflect.Method;
import java.lang.reflect.Modifier;
import java.net.URL;
import java.net.URLClassLoader;
import java.nio.file.Files;
import java.nio.file.Path;
import java.util.ArrayList;
import java.util.List;
import java.util.regex.Matcher;
import java.util.regex.Pattern;
import java.util.stream.Stream;
import javax.tools.JavaCompiler;
import javax.tools.ToolProvider;

/** Runs the examples of README.md as they stand there, and holds the answers against those behind them. */
public final class ReadmeTest {
    private static final Path README = Path.of("README.md");
    private static final String CLASS = "ReadmeExamples";
    private static final Pattern ANSWERED = Pattern.compile("(x\\.\\w+\\(.*\\)); *// (-?\\d+|true|false)(:.*)?");

    private static final StringBuilder FUNCTIONS = new StringBuilder();
    private static final StringBuilder EXAMPLES = new StringBuilder();
    private static int examples = 0;
    private static int answers = 0;

    private ReadmeTest() {
    }

    public static void main(String[] args) throws Exception {
        List<String> readme = Files.readAllLines(README);
        for (int line = 0; line < readme.size(); line++) {
            if (readme.get(line).startsWith("```java")) {
                line = takeBlock(readme, line + 1);
            }
        }
        List<?> seen = run(source());
        Check.due("answers seen", seen.size(), answers);
        for (Object each : seen) {
            String[] one = (String[]) each;
            Check.due("README.md, line " + one[0] + ": " + one[1] + " is " + one[3] + ", not " + one[2] + ": that",
                    one[2].equals(one[3]), true);
        }
        everyCallIsShown();
        everyTextIsRead(String.join("\n", readme));
        Check.end("ReadmeTest");
    }

    /** A block of functions stands as it is; in one of calls each is asked for the answer behind it. */
    private static int takeBlock(List<String> readme, int from) {
        boolean ofFunctions = readme.get(from).startsWith("static ");
        int line = from;
        EXAMPLES.append(ofFunctions ? "" : "static void example" + examples + "() {\n");
        for (; line < readme.size() && !readme.get(line).startsWith("```"); line++) {
            String text = readme.get(line);
            if (ofFunctions) {
                FUNCTIONS.append(text).append('\n');
            } else {
                EXAMPLES.append(takeLine(text, line + 1)).append('\n');
            }
        }
        if (!ofFunctions) {
            EXAMPLES.append("}\n");
            examples++;
        }
        return line;
    }

    private static String takeLine(String text, int number) {
        Matcher answered = ANSWERED.matcher(text);
        if (answered.matches()) {
            answers++;
            String call = answered.group(1);
            return "seen.add(new String[] {\"" + number + "\", \"" + call.replace("\"", "\\\"") + "\", \"\" + ("
                    + call + "), \"" + answered.group(2) + "\"});";
        }
        Check.due("README.md, line " + number + ": an answer stands behind " + text, text.startsWith("x."), false);
        return text;
    }

    private static String source() {
        StringBuilder source = new StringBuilder("public final class " + CLASS + " {\n");
        source.append("public static final java.util.List<String[]> seen = new java.util.ArrayList<>();\n");
        source.append("public static void run() {\n");
        for (int i = 0; i < examples; i++) {
            source.append("example").append(i).append("();\n");
        }
        return source.append("}\n").append(FUNCTIONS).append(EXAMPLES).append("}\n").toString();
    }

    private static List<?> run(String source) throws Exception {
        Path room = Files.createTempDirectory("readme");
        try {
            Path file = Files.writeString(room.resolve(CLASS + ".java"), source);
            JavaCompiler compiler = ToolProvider.getSystemJavaCompiler();
            int fault = compiler.run(null, null, null, "-cp", System.getProperty("java.class.path"), "-proc:none", "-d",
                    room.toString(), file.toString());
            Check.due("README.md's examples compile", fault, 0);
            if (fault != 0) {
                return new ArrayList<>();
            }
            try (URLClassLoader loader = new URLClassLoader(new URL[] {room.toUri().toURL()})) {
                Class<?> made = loader.loadClass(CLASS);
                made.getMethod("run").invoke(null);
                return (List<?>) made.getField("seen").get(null);
            }
        } finally {
            clear(room);
        }
    }

    private static void clear(Path room) throws Exception {
        List<Path> files;
        try (Stream<Path> found = Files.list(room)) {
            files = found.toList();
        }
        for (Path file : files) {
            Files.delete(file);
        }
        Files.delete(room);
    }

    private static void everyCallIsShown() {
        for (Method method : TippedCrates.class.getDeclaredMethods()) {
            if (Modifier.isPublic(method.getModifiers())) {
                boolean shown = EXAMPLES.indexOf("\"x." + method.getName() + "(") >= 0;
                Check.due("README.md shows " + method.getName(), shown, true);
            }
        }
    }

    /** What stands between two backticks and ends with a ; is a text. */
    private static void everyTextIsRead(String readme) {
        Matcher texts = Pattern.compile("`([a-z][^`\n]*;)`").matcher(readme);
        int found = 0;
        while (texts.find()) {
            Check.of(texts.group(1));
            found++;
        }
        Check.due("texts in README.md: " + found, found >= 10, true);
    }
}
