import java.io.IOException;
import java.nio.file.Files;
import java.nio.file.Path;

/** Counts answers that are as due and those that are not. */
final class Check {
    private static int right = 0;
    private static int wrong = 0;
    private static String sentence = "";
    private static String document = "";

    private Check() {
    }

    static void due(String call, long got, long want) {
        if (got == want) {
            right++;
            return;
        }
        wrong++;
        if (wrong <= 40) {
            System.out.println(sentence + call + " answered " + got + ", due is " + want);
        }
    }

    static void due(String what, boolean holds) {
        due(what, holds ? 1 : 0, 1);
    }

    /** What follows tests these words; they must stand so in the document, line breaks apart. */
    static void says(String words) {
        if (document.isEmpty()) {
            document = readDocument();
        }
        sentence = "";
        due("the document says: " + words, document.contains(words));
        sentence = "\"" + words + "\": ";
    }

    private static String readDocument() {
        try {
            return Files.readString(Path.of("../shared/DOC.md")).replaceAll("\\s+", " ");
        } catch (IOException e) {
            return "no document: " + e;
        }
    }

    /** Puts a text on the tape, eight bytes at a time. */
    static void feed(BidsJudged x, String text) {
        for (int from = 0; from < text.length(); from += 8) {
            int n = Math.min(8, text.length() - from);
            long bytes = 0;
            for (int i = n - 1; i >= 0; i--) {
                bytes = bytes << 8 | text.charAt(from + i) & 255;
            }
            x.feed(n, bytes);
        }
    }

    static int formula(BidsJudged x, String text) {
        feed(x, text);
        return x.formula();
    }

    static void end(String name) {
        System.out.println(name + ": " + right + " answers as due, " + wrong + " not");
        if (wrong != 0 || right == 0) {
            System.exit(1);
        }
    }
}
