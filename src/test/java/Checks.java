import java.io.IOException;
import java.nio.charset.StandardCharsets;
import java.nio.file.Files;
import java.nio.file.Path;
import java.util.Arrays;
import java.util.NoSuchElementException;

/** What the tests share: counting wrong answers, and telling a desk a text. */
final class Checks {
    interface Call {
        long answer();
    }

    private static final Path DOCUMENT = Path.of("..", "shared", "DOC.md");

    private static int checked = 0;
    private static int wrong = 0;
    private static String document = null;

    private Checks() {
    }

    static void due(String call, long got, long want) {
        checked++;
        if (got != want) {
            wrong++;
            System.out.println(call + " answered " + got + ", due is " + want);
        }
    }

    static void due(String call, boolean got, boolean want) {
        due(call, got ? 1 : 0, want ? 1 : 0);
    }

    /** What is tested next, in the document's own words: words that it no longer has are to be read again. */
    static void says(String words) {
        if (document == null) {
            document = readDocument();
        }
        due("the document says: " + words, document.isEmpty() || document.contains(words), true);
    }

    private static String readDocument() {
        try {
            return Files.exists(DOCUMENT) ? Files.readString(DOCUMENT).replaceAll("\\s+", " ") : "";
        } catch (IOException e) {
            return "";
        }
    }

    static void dueNoSuchElement(String call, Call tried) {
        checked++;
        try {
            long got = tried.answer();
            wrong++;
            System.out.println(call + " answered " + got + ", due is NoSuchElementException");
        } catch (NoSuchElementException e) {
            // as due
        }
    }

    /** Puts the text behind the tape of the desk. */
    static void tape(PriceDesk desk, String text) {
        byte[] bytes = text.getBytes(StandardCharsets.ISO_8859_1);
        int ahead = desk.now(6);
        for (int from = 0; from < bytes.length; from += 20) {
            byte[] row = Arrays.copyOfRange(bytes, from, from + 20);
            desk.feed(number(row, 0), number(row, 4), number(row, 8), number(row, 12), number(row, 16));
        }
        desk.end(ahead + bytes.length);
    }

    private static int number(byte[] row, int from) {
        return (row[from] & 255) << 24 | (row[from + 1] & 255) << 16 | (row[from + 2] & 255) << 8 | row[from + 3] & 255;
    }

    static int tell(PriceDesk desk, String text) {
        tape(desk, text);
        return desk.text();
    }

    static PriceDesk desk(String text) {
        PriceDesk desk = new PriceDesk();
        int lines = tell(desk, text);
        due("no fault in " + text, lines >= 0, true);
        return desk;
    }

    /** A text on a new desk has this fault at this place. */
    static void dueFault(String text, int place, int kind) {
        PriceDesk desk = new PriceDesk();
        due("text() of " + text, tell(desk, text), -1 - place);
        due("fault() of " + text, desk.fault(), kind);
    }

    static void dueLines(String text, int lines) {
        PriceDesk desk = new PriceDesk();
        due("text() of " + text, tell(desk, text), lines);
        due("fault() of " + text, desk.fault(), 0);
    }

    static void finish(String test) {
        System.out.println(test + ": " + checked + " checked, " + wrong + " wrong");
        if (wrong != 0) {
            System.exit(1);
        }
    }
}
