import java.io.IOException;
import java.nio.file.Files;
import java.nio.file.Path;

/** Compares answers with those that are due, and ends a test with exit code 1 if one was wrong. */
final class Due {
    private static final Path DOCUMENT = Path.of("../shared/DOC.md");

    private static String document = null;
    private static String sentence = "";
    private static int asked = 0;
    private static int wrong = 0;

    private Due() {
    }

    /** What comes behind is about this sentence, which must stand in the document word by word. */
    static void sentence(String words) {
        sentence = "";
        String all = document();
        holds("the document says: " + words, all.isEmpty() || all.contains(words));
        sentence = words;
    }

    /** The document's words with single blanks between them; empty, if it can't be read. */
    static String document() {
        if (document == null) {
            document = read();
        }
        return document;
    }

    /** Without the document the answers can be compared all the same, so its lack fails nothing. */
    private static String read() {
        try {
            return Files.readString(DOCUMENT).replaceAll("\\s+", " ");
        } catch (IOException e) {
            System.out.println("the document can't be read, so its sentences are not looked up: " + e);
            return "";
        }
    }

    static void is(String call, long got, long want) {
        asked++;
        if (got != want) {
            wrong++;
            if (wrong <= 50) {
                String about = sentence.isEmpty() ? "" : " (" + sentence + ")";
                System.out.println(call + " answered " + got + ", due is " + want + about);
            }
        }
    }

    static void holds(String what, boolean so) {
        is(what, so ? 1 : 0, 1);
    }

    static void end() {
        System.out.println(asked + " answers, " + wrong + " not as due");
        if (wrong != 0) {
            System.exit(1);
        }
    }
}
