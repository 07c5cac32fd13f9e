import java.lang.management.ManagementFactory;
import java.lang.reflect.Constructor;
import java.lang.reflect.Field;
import java.lang.reflect.Method;
import java.lang.reflect.Modifier;
import java.nio.file.Files;
import java.nio.file.Path;
import java.util.ArrayList;
import java.util.HashSet;
import java.util.List;
import java.util.Random;
import java.util.Set;
import java.util.TreeSet;
import java.util.regex.Matcher;
import java.util.regex.Pattern;

/** Rules of LANGUAGE.md that a test can see: the face, words that are ruled out, and what calls make. */
public final class RulesTest {
    private static final Path PROGRAM = Path.of("src/main/java/TippedCrates.java");

    private RulesTest() {
    }

    public static void main(String[] args) throws Exception {
        face();
        nestedClasses();
        words();
        callsMakeNothing();
        anyArguments();
        Check.end("RulesTest");
    }

    private static void face() {
        Set<String> due = new TreeSet<>(Set.of("feed", "back", "read", "place", "flag", "crate", "tells", "tip",
                "paint", "minutes"));
        due.addAll(Set.of("undo", "fewest", "cheapest", "never", "nearest", "spots", "round", "richest", "spell",
                "game"));
        due.addAll(Set.of("tops", "beside", "alike", "looks", "mirror", "then", "flagIn", "paidIn", "year"));
        due.addAll(Set.of("tell", "forget", "rows", "listen", "hold", "restore", "count"));
        Set<String> seen = new TreeSet<>();
        for (Method method : TippedCrates.class.getDeclaredMethods()) {
            if (Modifier.isPublic(method.getModifiers())) {
                seen.add(method.getName());
            } else if (!method.isSynthetic()) {
                Check.due("private: " + method, Modifier.isPrivate(method.getModifiers()), true);
                Check.due("a name of its own: " + method, due.contains(method.getName()), false);
            }
        }
        Check.due("the face " + seen, seen.equals(due), true);
        for (Field field : TippedCrates.class.getDeclaredFields()) {
            boolean isConstant = field.getName().equals("NONE");
            Check.due("visible: " + field, Modifier.isPublic(field.getModifiers()), isConstant);
            Check.due("private: " + field, Modifier.isPrivate(field.getModifiers()), !isConstant);
        }
        Check.due("NONE", TippedCrates.NONE, -1);
        Check.due("final", Modifier.isFinal(TippedCrates.class.getModifiers()), true);
        Check.due("constructors", TippedCrates.class.getDeclaredConstructors().length, 1);
    }

    private static void nestedClasses() {
        Set<String> publicNames = new HashSet<>();
        for (Method method : TippedCrates.class.getMethods()) {
            publicNames.add(method.getName());
        }
        Class<?>[] classes = TippedCrates.class.getDeclaredClasses();
        Check.due("some twelve classes", classes.length < 12, true);
        for (Class<?> one : classes) {
            Check.due("static: " + one, Modifier.isStatic(one.getModifiers()), true);
            Check.due("not public: " + one, Modifier.isPublic(one.getModifiers()), false);
            int fields = 0;
            for (Field field : one.getDeclaredFields()) {
                boolean isStatic = Modifier.isStatic(field.getModifiers());
                fields += isStatic ? 0 : 1;
                Check.due("final: " + field, !isStatic || Modifier.isFinal(field.getModifiers()), true);
            }
            Check.due("some twenty fields: " + one + " has " + fields, fields <= 21, true);
            for (Method method : one.getDeclaredMethods()) {
                Check.due("a name of its own: " + method, publicNames.contains(method.getName()), false);
                Check.due("seven parameters: " + method, method.getParameterCount() <= 7, true);
            }
            for (Constructor<?> constructor : one.getDeclaredConstructors()) {
                Check.due("seven parameters: " + constructor, constructor.getParameterCount() <= 7, true);
            }
        }
    }

    private static void words() throws Exception {
        String source = Files.readString(PROGRAM);
        Check.due("characters 1 to 127", source.chars().allMatch(c -> c > 0 && c < 128), true);
        String code = source.replaceAll("(?s)/\\*.*?\\*/", "").replaceAll("//[^\n]*", "")
                .replaceAll("\"[^\"\n]*\"", "\"\"");
        for (String word : new String[] {"throw", "throws", "try", "catch", "finally", "synchronized", "assert",
            "package", "->", "::", "Exact", "double", "float", "native", "volatile", "static\\s*\\{", "\"\"\\s*\\+",
            "\\+\\s*\"\"", "equals", "hashCode", "toString", "protected", "MAX_VALUE", "MIN_VALUE", "record"}) {
            String sought = word.matches("[A-Za-z]+") ? "\\b" + word + "\\b" : word;
            Check.due("ruled out: " + word, Pattern.compile(sought).matcher(code).find(), false);
        }
        Matcher imports = Pattern.compile("(?m)^import (.*);").matcher(code);
        while (imports.find()) {
            Check.due("import " + imports.group(1), imports.group(1).equals("java.util.Arrays"), true);
        }
        methodsAreShort(code);
    }

    private static void methodsAreShort(String code) {
        Matcher bodies = Pattern.compile("(?ms)^( +)(?!if|for|while|switch|else|private static final class)"
                + "[A-Za-z][^\n;=]*\\) \\{\n(.*?)^\\1\\}").matcher(code);
        int methods = 0;
        while (bodies.find()) {
            methods++;
            int lines = bodies.group(2).split("\n").length;
            Check.due("lines of " + bodies.group().split("\n")[0].trim(), lines <= 60, true);
        }
        Check.due("methods seen: " + methods, methods > 80, true);
    }

    /** What a thread has made so far, in bytes. */
    private static long made() {
        return ((com.sun.management.ThreadMXBean) ManagementFactory.getThreadMXBean())
                .getThreadAllocatedBytes(Thread.currentThread().getId());
    }

    private static void callsMakeNothing() {
        TippedCrates x = Check.of("yard 5 5;shut 4 0;paint 1 1 4;crate b 3 2 0 1 2 3 4 5;crate a 0 0 1 2 3 4 5 6;"
                + "crate c 4 4 1 1 1 2 2 2;costs=left+top;slips=40;takes=way;prints=if way<2 then 1 else 0;seed 5;");
        long ahead = made();
        long nothing = made() - ahead;
        long least = Long.MAX_VALUE;
        // The machine itself makes a little when it first comes to a place in the code.
        for (int i = 0; i < 10; i++) {
            ahead = made();
            oneOfEach(x);
            least = Math.min(least, made() - ahead - nothing);
        }
        Check.due("bytes made by one call of each", least, 0);
        ahead = made();
        new TippedCrates();
        long bytes = made() - ahead;
        Check.due("a new object's bytes: " + bytes, bytes < 80000, true);
    }

    private static void oneOfEach(TippedCrates x) {
        x.tip(1, 0);
        x.paint(7, 3);
        x.paint(7, 4);
        x.minutes(60);
        x.undo();
        x.hold(1);
        x.restore(1);
        x.tells(1, 1, 1);
        x.flag(0, 2);
        x.crate(0, 3);
        x.fewest(1, 5, 3, 0);
        x.cheapest(1, 10);
        x.never(1, 3);
        x.nearest(1, 4, 0);
        x.spots(1);
        x.round(1, 1);
        x.richest(1, 40, 1);
        x.spell(1, 1234, 4);
        x.game(1, 6, 1);
        x.tops(1);
        x.beside(1, 0);
        x.alike(1, 0);
        x.looks(1);
        x.mirror(1);
        x.then(1, 60, 0);
        x.flagIn(1, 60);
        x.paidIn(60);
        x.year(1, 1, 60, 20);
        x.tell(1, 1, false);
        x.rows(1, 1, 5, 1);
        x.listen(1, 1, 5);
        x.forget();
        x.count(15);
        x.feed(1, 2, 3, 4, 5);
        x.back(1);
        x.read();
        x.place();
    }

    /** No arguments, however odd, may make a call throw. */
    private static void anyArguments() throws Exception {
        List<Method> methods = new ArrayList<>();
        for (Method method : TippedCrates.class.getDeclaredMethods()) {
            if (Modifier.isPublic(method.getModifiers())) {
                methods.add(method);
            }
        }
        methods.sort((p, q) -> p.getName().compareTo(q.getName()));
        int[] odd = {Integer.MIN_VALUE, Integer.MAX_VALUE, -2, -1, 0, 1, 2, 3, 4, 5, 6, 7, 9, 10, 15, 16, 20, 24, 25,
            40, 41, 60, 61, 0x73656564, 0x3b3b3b3b};
        Random random = new Random(11);
        for (int object = 0; object < 60; object++) {
            TippedCrates x = object % 3 == 0 ? new TippedCrates() : Check.of("yard 3 5;crate a 1 1 1 2 3 4 5 6;"
                    + "crate b 2 2 1 0 9 9 0 1;costs=left/flag;slips=60;prints=tips;takes=1;");
            for (int call = 0; call < 500; call++) {
                Method method = methods.get(random.nextInt(methods.size()));
                Object[] values = new Object[method.getParameterCount()];
                for (int i = 0; i < values.length; i++) {
                    values[i] = method.getParameterTypes()[i] == boolean.class ? (Object) random.nextBoolean()
                            : (Object) odd[random.nextInt(odd.length)];
                }
                method.invoke(x, values);
            }
            Check.due("still answers", x.count(0) > 1, true);
        }
    }
}
