/** Counts the answers that are not as due, and feeds texts to a tape. */
final class Due {
    private int asked;
    private int wrong;

    void is(String call, long got, long want) {
        asked++;
        if (got != want) {
            wrong++;
            System.out.println(call + " answered " + got + ", due is " + want);
        }
    }

    void yes(String call, boolean got) {
        is(call, got ? 1 : 0, 1);
    }

    void no(String call, boolean got) {
        is(call, got ? 1 : 0, 0);
    }

    void end(String test) {
        System.out.println(test + ": " + asked + " answers, " + wrong + " not as due");
        if (wrong != 0 || asked == 0) {
            System.exit(1);
        }
    }

    /** Feeds a text, filled up with blanks to twenties; answers what the last feed answered. */
    static int feed(FontList list, String text) {
        int size = list.count(3);
        for (int at = 0; at < text.length(); at += 20) {
            int[] word = new int[5];
            for (int k = 0; k < 20; k++) {
                int sign = at + k < text.length() ? text.charAt(at + k) & 255 : ' ';
                word[k / 4] = word[k / 4] << 8 | sign;
            }
            size = list.feed(word[0], word[1], word[2], word[3], word[4]);
        }
        return size;
    }

    /** Tells a CUSTOM; a tape that holds something is emptied first, by a TEXT that has a FAULT. */
    static int custom(FontList list, int k, String text) {
        if (list.count(3) > 0) {
            list.feed(0, 0, 0, 0, 0);
            list.custom(k, 1);
        }
        feed(list, text);
        return list.custom(k, text.length());
    }

    /** A row of numbers as a tape has it. */
    static int row(FontList list, int... numbers) {
        StringBuilder text = new StringBuilder();
        for (int number : numbers) {
            text.append((char) number);
        }
        return feed(list, text.length() == 0 ? " " : text.toString());
    }

    static String times(String part, int n) {
        return part.repeat(n);
    }
}
