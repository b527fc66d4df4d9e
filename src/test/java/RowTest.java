/** Promises 21 and 22: a WAY told as a row, JUDGED, and what is LEARNT from it. */
public final class RowTest {
    private static final Due due = new Due();

    public static void main(String[] args) {
        promise21Judge();
        promise21Faults();
        promise21Tape();
        promise22Learnt();
        promise22Years();
        promise22LikeOnes();
        promise22NoSuchOnes();
        due.end("RowTest");
    }

    /** COUPLES 0 and 1 of the same NAMES, 2 of another wife; sons of 20, 22, 24 with NAMES 0, 2, 3. */
    private static FontList list() {
        FontList list = new FontList();
        list.name(0, 5);
        list.name(1, 6);
        list.name(0, 7);
        list.name(0, 8);
        list.name(1, 9);
        list.couple(0, 1, 10, 50);
        list.couple(0, 1, 10, 50);
        list.couple(0, 4, 10, 50);
        list.christening(0, 20, 0, 1, -1);
        list.christening(2, 22, 0, -1, -1);
        list.christening(3, 24, 0, -1, -1);
        return list;
    }

    private static void text(FontList list, int k, String text) {
        due.is("FAULT of " + text, Due.custom(list, k, text) > 0 ? 1 : 0, 1);
    }

    private static void judged(String what, FontList list, int want, int... row) {
        Due.row(list, row);
        due.is(what, list.judge(), want);
        due.is(what + ": the tape is empty", list.count(3), 0);
    }

    private static void promise21Judge() {
        FontList list = list();
        judged("no CUSTOM", list, 0, 0, 0, 0);
        judged("two have nobody", list, -40, 6, 0, 6);
        text(list, 0, "P(n=1);F(n=2)");
        list.customs(0, 0, 0);
        judged("John's, grandfather's, FREE", list, 12, 0, 0, 0);
        judged("each with another", list, 5 - 10 - 10, 0, 1, 2);
        judged("with nobody", list, 5 - 10 - 20, 0, 2, 6);
        list.weighs(1, 2);
        judged("LOSS 1, ALONE 2", list, 5 - 1 - 2, 0, 2, 6);
        FontList none = new FontList();
        judged("no CHRISTENING", none, 0);
        due.is("no CHRISTENING, no tape", none.judge(), 0);
    }

    private static void promise21Faults() {
        FontList list = list();
        judged("another mother", list, -2000000, 2, 0, 0);
        judged("7", list, -2000001, 0, 7, 0);
        judged("no such COUPLE", list, -2000001, 0, 3, 0);
        judged("no such COUPLE 5", list, -2000002, 0, 0, 5);
        judged("255", list, -2000002, 0, 0, 255);
        judged("the first of two", list, -2000001, 0, 4, 9);
        list.christening(2, 25, 0, -1, -1);
        judged("24 and 25", list, -3000000, 0, 1, 0, 0);
        judged("24 and 25 with 1", list, -3000001, 0, 0, 1, 1);
        judged("24 and 25 with 2", list, -3000002, 0, 0, 2, 2);
        judged("24 and 25 with nobody", list, -40, 0, 0, 6, 6);
        judged("a TIE comes first", list, -2000003, 0, 1, 1, 3);
        list.christening(2, 23, 0, -1, -1);
        judged("the first COUPLE of two", list, -3000000, 6, 1, 0, 0, 1);
        list.christening(3, 9, 0, -1, -1);
        judged("too early", list, -2000005, 6, 6, 6, 6, 6, 0);
    }

    private static void promise21Tape() {
        FontList list = list();
        due.is("no tape", list.judge(), -1000000);
        list.feed(0x06060600, 0xffffffff, -1, -1, -1);
        due.is("three bytes count", list.judge(), -60);
        for (int k = 0; k < 7; k++) {
            list.christening(0, 60, 0, -1, -1);
        }
        due.is("ten", list.count(2), 10);
        due.is("it has not so many", list.judge(), -1000000);
        list.feed(0x00000006, 0x06060606, 0x06060000, 0, 0);
        due.is("ten bytes", list.judge(), -140);
    }

    private static int learnt(FontList list, int from, int to, int what, int... row) {
        Due.row(list, row);
        return list.learnt(from, to, what);
    }

    private static void learns(String of, FontList list, int from, int to, int[] row, int... want) {
        for (int what = 0; what < 4; what++) {
            due.is(of + ": " + what, learnt(list, from, to, what, row), want[what]);
            due.is(of + ": the tape is empty", list.count(3), 0);
        }
    }

    private static void promise22Learnt() {
        FontList list = list();
        list.parent(0, 0, 3);
        text(list, 1, "P(n=1);M(n=2)");
        learns("one CUSTOM", list, 0, 300, new int[] {0, 0, 0}, 1, 1, 0, 12);
        text(list, 3, "F(n=3)");
        learns("a change ahead of the third", list, 0, 300, new int[] {0, 0, 0}, 1, 3, 23, 20);
        learns("the second is FREE", list, 0, 22, new int[] {0, 0, 0}, 1, 3, 21, 13);
        learns("not so early", list, 0, 20, new int[] {0, 0, 0}, 1, 1, 0, 12);
        learns("from 24 on", list, 24, 24, new int[] {0, 0, 0}, 1, 3, 24, 20);
        learns("beyond", list, 25, 40, new int[] {0, 0, 0}, 1, 1, 25, 12);
        list.customs(3, 3, 7);
        learns("others with nobody", list, 0, 300, new int[] {0, 6, 6}, 1, 1, 0, 5 - 40);
        due.is("A stays", list.count(4), 3);
        due.is("B stays", list.count(5), 3);
        due.is("the YEAR stays", list.count(6), 7);
        text(list, 0, "F(n=3);P(n=1)");
        learns("0 from 23 on: as good as 3", list, 0, 300, new int[] {0, 0, 0}, 1, 0, 23, 20);
    }

    private static void promise22Years() {
        FontList list = list();
        text(list, 0, "P(n=2)");
        text(list, 1, "P(n=1)");
        learns("B alone, from the first YEAR on", list, 0, 300, new int[] {0, 0, 0}, 0, 1, 0, 5);
        learns("A alone", list, 300, 300, new int[] {0, 0, 0}, 1, 0, 300, 5);
        learns("A for the first, B behind it", list, 21, 300, new int[] {0, 0, 0}, 1, 0, 23, 5);
        FontList one = new FontList();
        one.name(0, 5);
        one.name(1, 6);
        one.couple(0, 1, 0, 299);
        one.christening(0, 50, 0, -1, -1);
        one.parent(0, 0, 0);
        one.parent(0, 2, 0);
        text(one, 1, "P(n=1)");
        text(one, 0, "P(n=2)");
        learns("B in its YEAR", one, 0, 300, new int[] {0}, 0, 1, 0, 5);
        learns("A ahead of the YEAR behind it", one, 51, 300, new int[] {0}, 1, 0, 51, 5);
        learns("and not ahead of its own", one, 50, 51, new int[] {0}, 0, 1, 50, 5);
        text(one, 0, "S(n=1)");
        text(one, 1, "F(y=50);P(y=50)");
        learns("B alone", one, 49, 52, new int[] {0}, 0, 1, 49, 5);
        Due.custom(one, 0, "P(n=1)");
        Due.custom(one, 1, "Q(n=1)");
        one.christening(1, 60, 0, -1, -1);
        learns("at 51, where the first goes over", one, 40, 70, new int[] {0, 0}, 0, 1, 51, 11);
    }

    private static void promise22LikeOnes() {
        FontList list = list();
        text(list, 2, "P(n=1)");
        text(list, 3, "P(n=1)");
        learns("the least pair", list, 5, 9, new int[] {0, 0, 0}, 2, 2, 5, 5);
        text(list, 0, "P(n=9)");
        learns("the least A, then B, then YEAR", list, 5, 9, new int[] {0, 0, 0}, 0, 2, 5, 5);
        learns("not from 21 on", list, 21, 21, new int[] {0, 0, 0}, 2, 0, 21, 5);
        text(list, 1, "P(n=1);P(n=2)");
        learns("the YEAR, too", list, 0, 300, new int[] {0, 0, 0}, 0, 2, 0, 5);
    }

    private static void promise22NoSuchOnes() {
        FontList list = list();
        due.is("no CUSTOM is told", learnt(list, 0, 300, 0, 0, 0, 0), -1000000);
        due.is("the tape stays", list.count(3), 20);
        text(list, 0, "P(n=1)");
        list.feed(0, 0, 0, 0, 0);
        int[][] wrong = {{-1, 5, 0}, {0, 301, 0}, {5, 4, 0}, {0, 5, 4}, {0, 5, -1}, {301, 301, 0},
            {Integer.MIN_VALUE, Integer.MAX_VALUE, 0}};
        for (int[] w : wrong) {
            due.is("learnt(" + w[0] + ", " + w[1] + ", " + w[2] + ")", list.learnt(w[0], w[1], w[2]), -1000000);
        }
        due.is("the tape stays", list.count(3), 20);
        due.is("all YEARS", list.learnt(0, 300, 3), 5);
        due.is("not so many", list.learnt(0, 300, 3), -1000000);
        due.is("no WAY", learnt(list, 0, 300, 3, 2, 0, 0), -2000000);
        due.is("the tape is empty", list.count(3), 0);
        due.is("no such COUPLE", learnt(list, 0, 300, 3, 0, 5, 0), -2000000);
        list.christening(2, 25, 0, -1, -1);
        due.is("no FAMILY", learnt(list, 0, 300, 3, 0, 1, 0, 0), -2000000);
        FontList none = new FontList();
        text(none, 2, "P(n=1)");
        learns("no CHRISTENING", none, 7, 9, new int[0], 2, 2, 7, 0);
        due.is("no CHRISTENING, no tape", none.learnt(7, 9, 2), 7);
    }
}
