import java.io.IOException;
import java.nio.charset.StandardCharsets;
import java.nio.file.Files;
import java.nio.file.Path;

/** What the tests share: texts come onto a tape, answers are held against the due ones. */
final class Check {
    private static final Path DOCUMENT = Path.of("../shared/DOC.md");
    private static int passed = 0;
    private static int failed = 0;
    private static String document = "";
    private static String sentence = "";
    private static int passedAhead = 0;

    private Check() {
    }

    static void due(String what, long got, long want) {
        if (got == want) {
            passed++;
        } else {
            failed++;
            System.out.println(what + " answered " + got + ", due is " + want);
            if (!sentence.isEmpty()) {
                System.out.println("    where the document says: " + sentence);
            }
        }
    }

    static void due(String what, boolean got, boolean want) {
        due(what, got ? 1 : 0, want ? 1 : 0);
    }

    /** The words of the document that the checks from here on hold the program to. */
    static void says(String words) {
        due("checks of: " + sentence, sentence.isEmpty() || passed + failed > passedAhead, true);
        if (document.isEmpty()) {
            document = documentAsOneLine();
        }
        // Only told, as a document written anew is no fault of the program.
        if (!document.contains(words)) {
            System.out.println("note: the document does not say: " + words);
        }
        sentence = words;
        passedAhead = passed + failed;
    }

    static String documentAsOneLine() {
        try {
            return Files.readString(DOCUMENT).replace("```text", "").replace("```", "").replaceAll("\\s+", " ");
        } catch (IOException e) {
            return "no document at " + DOCUMENT;
        }
    }

    /** Four bytes of a text from a place on as one int, blanks behind its end. */
    static int word(byte[] bytes, int from) {
        int word = 0;
        for (int i = from; i < from + 4; i++) {
            word = word << 8 | (i < bytes.length ? bytes[i] & 255 : 32);
        }
        return word;
    }

    static void put(TippedCrates x, String text) {
        byte[] bytes = text.getBytes(StandardCharsets.ISO_8859_1);
        for (int i = 0; i < bytes.length; i += 20) {
            x.feed(word(bytes, i), word(bytes, i + 4), word(bytes, i + 8), word(bytes, i + 12), word(bytes, i + 16));
        }
        x.back((20 - bytes.length % 20) % 20);
    }

    /** A new object that has read a text without a fault. */
    static TippedCrates of(String text) {
        TippedCrates x = new TippedCrates();
        put(x, text);
        due("read of " + text, x.read(), 0);
        return x;
    }

    static void end(String name) {
        System.out.println(name + ": " + passed + " passed, " + failed + " failed");
        if (failed != 0) {
            System.exit(1);
        }
    }
}
