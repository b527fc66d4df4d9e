import java.io.IOException;
import java.nio.file.Files;
import java.nio.file.Path;

/** Counts the answers that are not as due, and feeds texts to a tape. */
final class Due {
    private static final Path DOCUMENT = Path.of("../shared/DOC.md");

    private int asked;
    private int wrong;
    private int sentences;
    private String sentence = "";
    private String document = "";

    void is(String call, long got, long want) {
        asked++;
        if (got != want) {
            wrong++;
            System.out.println(sentence + call + " answered " + got + ", due is " + want);
        }
    }

    /** What is asked from here on is due by these words, which must stand in the document. */
    void sentence(String words) {
        sentence = "[" + words + "] ";
        sentences++;
        yes("the words stand in the document", document().isEmpty() || document().contains(words));
    }

    private String document() {
        if (document.isEmpty() && Files.isReadable(DOCUMENT)) {
            try {
                document = Files.readString(DOCUMENT).replaceAll("\\s+", " ");
            } catch (IOException unread) {
                System.out.println("the document can't be read: " + unread);
            }
        }
        return document;
    }

    void yes(String call, boolean got) {
        is(call, got ? 1 : 0, 1);
    }

    void no(String call, boolean got) {
        is(call, got ? 1 : 0, 0);
    }

    void end(String test) {
        String of = sentences == 0 ? "" : " to " + sentences + " sentences";
        System.out.println(test + ": " + asked + " answers" + of + ", " + wrong + " not as due");
        if (wrong != 0 || asked == 0) {
            System.exit(1);
        }
    }

    /** Tells a TEXT without a FAULT as CUSTOM 0, which is THE CUSTOM in all YEARS. */
    void use(FontList list, String text) {
        yes("no FAULT in " + text, custom(list, 0, text) > 0);
        list.customs(0, 0, 0);
    }

    /** Feeds a text, filled up with blanks to twenties; answers what the last feed answered. */
    static int feed(FontList list, String text) {
        int size = list.count(3);
        for (int at = 0; at < text.length(); at += 20) {
            int[] word = new int[5];
            for (int k = 0; k < 20; k++) {
                int sign = at + k < text.length() ? text.charAt(at + k) & 255 : ' ';
                word[k / 4] = word[k / 4] << 8 | sign;
            }
            size = list.feed(word[0], word[1], word[2], word[3], word[4]);
        }
        return size;
    }

    /** Tells a CUSTOM; a tape that holds something is emptied first, by a TEXT that has a FAULT. */
    static int custom(FontList list, int k, String text) {
        if (list.count(3) > 0) {
            list.feed(0, 0, 0, 0, 0);
            list.custom(k, 1);
        }
        feed(list, text);
        return list.custom(k, text.length());
    }

    /** A row of numbers as a tape has it. */
    static int row(FontList list, int... numbers) {
        StringBuilder text = new StringBuilder();
        for (int number : numbers) {
            text.append((char) number);
        }
        return feed(list, text.length() == 0 ? " " : text.toString());
    }

    static String times(String part, int n) {
        return part.repeat(n);
    }
}
