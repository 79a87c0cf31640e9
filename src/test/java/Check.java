import java.io.IOException;
import java.io.UncheckedIOException;
import java.nio.charset.StandardCharsets;
import java.nio.file.Files;
import java.nio.file.Path;

/** Counts answers that are not the ones due, and makes objects that a text has been told to. */
final class Check {
    private static final Path DOCUMENT = Path.of("../shared/DOC.md");

    private final String name;
    private String document;
    private String sentence = "";
    private int asked;
    private int wrong;

    Check(String name) {
        this.name = name;
    }

    void due(String what, long got, long want) {
        asked++;
        if (got != want) {
            wrong++;
            System.out.println(name + ": " + what + " answered " + got + ", due is " + want + sentence);
        }
    }

    void holds(String what, boolean is) {
        due(what, is ? 1 : 0, 1);
    }

    /** The sentence that the answers from here on stand for; the document must have it word for word. */
    void says(String words) {
        if (document == null) {
            document = oneLine(readDocument());
        }
        sentence = "";
        holds("the document says '" + words + "'", document.contains(oneLine(words)));
        sentence = " (" + words + ")";
    }

    private static String readDocument() {
        try {
            return Files.readString(DOCUMENT, StandardCharsets.UTF_8);
        } catch (IOException e) {
            throw new UncheckedIOException(e);
        }
    }

    private static String oneLine(String words) {
        return words.replaceAll("\\s+", " ");
    }

    void finish() {
        System.out.println(name + ": " + asked + " answers, " + wrong + " of them wrong");
        if (wrong != 0 || asked == 0) {
            System.exit(1);
        }
    }

    static void type(DuskStones x, String text) {
        for (int i = 0; i < text.length(); i++) {
            x.type(text.charAt(i));
        }
    }

    /** A new object whose hills were read from a text that has no fault. */
    static DuskStones told(String text) {
        DuskStones x = new DuskStones();
        type(x, text);
        int items = x.hills();
        if (items < 0) {
            throw new IllegalArgumentException("this text has a fault: " + text + ": " + items);
        }
        return x;
    }

    static void hours(DuskStones x, int times) {
        for (int i = 0; i < times; i++) {
            x.hour();
        }
    }

    /** A man is ordered to a hill for so many hours, and to none then. */
    static void push(DuskStones x, int m, int h, int times) {
        x.order(m, h);
        hours(x, times);
        x.order(m, DuskStones.NONE);
    }
}
