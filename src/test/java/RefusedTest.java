import java.util.ArrayList;
import java.util.List;
import java.util.function.ToLongFunction;

/**
 * What is refused changes nothing, and what is only asked changes nothing either: of two like objects one gets the
 * call, and both must answer alike ever after.
 */
public final class RefusedTest extends Parish {
    private static final Due due = new Due();
    private static final int LEAST = Integer.MIN_VALUE;
    private static final int GREATEST = Integer.MAX_VALUE;

    private static final String SHORT_ROW = "\0\0\1\0\6";
    private static final String SHORT_TEXT = "P(n=12345);Q(n=1234)";
    private static final String LONG_ROW = "\0\0\1\0\2\0\3\0\4\6".repeat(20);
    private static final String LONG_TEXT = "P(" + "1+".repeat(77) + "1=1)" + "x".repeat(40);

    public static void main(String[] args) {
        due.sentence("A call that is refused (NONE, false) changes nothing but the tape, where it is told.");
        refusedTellings();
        refusedTexts();
        refusedForWantOfRoom();
        refusedQuestions();
        refusedForWantOfBytes();
        due.sentence("Nothing is promised beyond the answers and state changes described above");
        questionsChangeNothing();
        emptiedTapesChangeNothingElse();
        due.end("RefusedTest");
    }

    /** Three COUPLES, five CHRISTENINGS, two CUSTOMS of four; room for more of all. */
    private static FontList half(String tape) {
        FontList list = twoCouples();
        list.couple(JOHN, ANNE, 15, 60);
        list.parent(0, 0, PAUL);
        list.parent(0, 3, RUTH);
        list.parent(2, 2, MARK);
        list.christening(PAUL, 20, JOHN, -1, LUKE);
        list.christening(RUTH, 22, JOHN, MARY, -1);
        list.christening(MARK, 23, JOHN, -1, -1);
        list.christening(PAUL, 30, JOHN, -1, -1);
        list.christening(MARY, 91, JOHN, -1, RUTH);
        list.died(0, 28);
        list.weighs(7, 9);
        Due.custom(list, 0, "F(n=1);M(n=2);P(n=3);m(n=1);Q(n=2)");
        Due.custom(list, 2, "D(1=1);S(1=1);P(n>0)");
        list.customs(0, 2, 23);
        Due.feed(list, tape);
        return list;
    }

    /** 16 NAMES, 6 COUPLES, 10 CHRISTENINGS. */
    private static FontList full(String tape) {
        FontList list = new FontList();
        for (int k = 0; k < 16; k++) {
            list.name(k % 2, 3 + k);
        }
        for (int c = 0; c < 6; c++) {
            list.couple(0, 2 * c + 1, 10 * c, 99);
        }
        for (int i = 0; i < 10; i++) {
            list.christening(i + 2, 9 * i, 0, -1, i % 2 == 0 ? 14 : 15);
        }
        due.use(list, "F(n=1);f(n=1);P(n=2);S(n>2)");
        Due.feed(list, tape);
        return list;
    }

    /** All that can be asked without emptying the tape, in less calls than an object may be used for. */
    private static List<Long> answers(FontList list) {
        List<Long> answers = new ArrayList<>();
        for (int what = 0; what < 14; what++) {
            answers.add((long) list.count(what));
            answers.add(list.ways(what % 4));
        }
        for (int i = 0; i < 10; i++) {
            for (int what = 0; what < 6; what++) {
                answers.add((long) list.look(i, what));
            }
            answers.add((long) list.best(i));
            answers.add((long) list.sure(i, 0));
            answers.add((long) list.sure(i, 6));
        }
        for (int c = 0; c < 6; c++) {
            for (int w = 0; w < 4; w++) {
                answers.add((long) list.grand(c, w));
            }
            for (int set = 1; set < 1024; set += 1 + set % 5 + set / 4) {
                answers.add((long) list.points(c, set));
            }
            for (int i = 0; i < 5; i++) {
                answers.add((long) list.by(c, 1 << i, i));
                answers.add((long) list.should(c, 9, i));
            }
            answers.add((long) list.must(c, 9, 0));
            answers.add((long) list.must(c, 2, 1));
        }
        answers.add((long) list.little(10));
        answers.add((long) list.little(1000));
        return answers;
    }

    private static void alike(String call, FontList one, FontList other) {
        List<Long> want = answers(one);
        due.yes("few enough questions", want.size() < 400);
        due.yes(call + " changes no answer", answers(other).equals(want));
    }

    /** Told of a half filled object: once with a row on its tape, once with a TEXT. */
    private static void refused(String call, long want, ToLongFunction<FontList> asked) {
        FontList row = half(SHORT_ROW);
        due.is(call, asked.applyAsLong(row), want);
        alike(call, half(SHORT_ROW), row);
        due.is(call + " changes no byte of the row", row.judge(), half(SHORT_ROW).judge());
        FontList text = half(SHORT_TEXT);
        due.is(call, asked.applyAsLong(text), want);
        due.is(call + " changes no byte of the TEXT", text.custom(3, 20), 2);
    }

    private static void refusedByFull(String call, ToLongFunction<FontList> asked) {
        FontList row = full(LONG_ROW);
        due.is(call, asked.applyAsLong(row), -1);
        alike(call, full(LONG_ROW), row);
        due.is(call + " changes no byte of the row", row.judge(), full(LONG_ROW).judge());
        FontList text = full(LONG_TEXT);
        due.is(call, asked.applyAsLong(text), -1);
        due.is(call + " changes no byte of the TEXT", text.custom(3, 160), 1);
    }

    private static void refusedByEmpty(String call, long want, ToLongFunction<FontList> asked) {
        FontList list = half("");
        due.is(call, asked.applyAsLong(list), want);
        alike(call, half(""), list);
        Due.feed(list, SHORT_TEXT);
        due.is(call + " leaves the tape empty", list.custom(3, 20), 2);
    }

    private static void refusedTellings() {
        int[][] names = {{-1, 5}, {2, 5}, {0, 0}, {1, 101}, {LEAST, GREATEST}};
        for (int[] n : names) {
            refused("name", -1, list -> list.name(n[0], n[1]));
        }
        int[][] couples = {{MARY, MARY, 5, 9}, {JOHN, JOHN, 5, 9}, {7, MARY, 5, 9}, {JOHN, -1, 5, 9},
            {JOHN, MARY, -1, 9}, {JOHN, MARY, 5, 300}, {JOHN, MARY, 5, 4}, {JOHN, MARY, 300, 300}};
        for (int[] c : couples) {
            refused("couple", -1, list -> list.couple(c[0], c[1], c[2], c[3]));
        }
        int[][] parents = {{3, 0, JOHN}, {-1, 0, JOHN}, {0, 4, JOHN}, {0, -1, RUTH}, {0, 0, RUTH}, {0, 3, JOHN},
            {0, 0, 7}, {0, 0, -2}, {3, 0, -1}, {0, 4, -1}};
        for (int[] p : parents) {
            refused("parent", 0, list -> list.parent(p[0], p[1], p[2]) ? 1 : 0);
        }
        int[][] fonts = {{7, 5, JOHN, -1, -1}, {-1, 5, JOHN, -1, -1}, {PAUL, -1, JOHN, -1, -1},
            {PAUL, 300, JOHN, -1, -1}, {PAUL, 5, MARY, -1, -1}, {PAUL, 5, -1, -1, -1}, {PAUL, 5, JOHN, JOHN, -1},
            {PAUL, 5, JOHN, -2, -1}, {PAUL, 5, JOHN, -1, MARY}, {ANNE, 5, JOHN, -1, JOHN}, {PAUL, 5, JOHN, -1, -2}};
        for (int[] f : fonts) {
            refused("christening", -1, list -> list.christening(f[0], f[1], f[2], f[3], f[4]));
        }
        int[][] deaths = {{0, 19}, {0, 300}, {0, -2}, {5, 40}, {-1, 40}, {5, -1}, {0, LEAST}};
        for (int[] d : deaths) {
            refused("died", 0, list -> list.died(d[0], d[1]) ? 1 : 0);
        }
        int[][] weights = {{-1, 5}, {101, 5}, {5, -1}, {5, 1001}, {LEAST, GREATEST}};
        for (int[] w : weights) {
            refused("weighs", 0, list -> list.weighs(w[0], w[1]) ? 1 : 0);
        }
    }

    private static void refusedTexts() {
        int[][] customs = {{4, 7}, {-1, 7}, {0, 0}, {0, -1}, {0, 21}, {0, 161}, {0, LEAST}, {0, GREATEST}};
        for (int[] c : customs) {
            refused("custom", -1, list -> list.custom(c[0], c[1]));
        }
        int[][] pairs = {{4, 0, 9}, {-1, 0, 9}, {0, 4, 9}, {0, -1, 9}, {1, 1, -1}, {1, 1, 301}};
        for (int[] p : pairs) {
            refused("customs", 0, list -> list.customs(p[0], p[1], p[2]) ? 1 : 0);
        }
    }

    private static void refusedForWantOfRoom() {
        refusedByFull("name of a 17th", list -> list.name(0, 5));
        refusedByFull("couple of a seventh", list -> list.couple(0, 1, 0, 99));
        refusedByFull("christening of an 11th", list -> list.christening(0, 5, 0, -1, -1));
        refusedByFull("feed beyond 200", list -> list.feed(-1, 0, -1, 0, -1));
        refusedByFull("custom of 161 bytes", list -> list.custom(0, 161));
    }

    private static void refusedQuestions() {
        refused("tie", -1, list -> list.tie(5, 0));
        refused("family", -1, list -> list.family(0, 32));
        refused("family that can't be", 0, list -> list.family(0, 6));
        refused("points", -1000000, list -> list.points(3, 0));
        refused("points of what can't be", -1000000, list -> list.points(0, 6));
        refused("by", -1, list -> list.by(0, 1, 1));
        refused("by of what can't be", -1, list -> list.by(0, 6, 1));
        refused("should", -1, list -> list.should(0, 1, 5));
        refused("best", -1, list -> list.best(5));
        refused("ways", -1, list -> list.ways(4));
        refused("sure", -1, list -> list.sure(0, 3));
        refused("grand", -1, list -> list.grand(0, 4));
        refused("must", -1, list -> list.must(0, 1, 2));
        refused("must of what can't be", -1, list -> list.must(0, 6, 0));
        refused("learnt", -1000000, list -> list.learnt(0, 301, 0));
        refused("learnt the other way round", -1000000, list -> list.learnt(9, 8, 0));
        refused("little", -1, list -> list.little(1001));
        refused("look", -1, list -> list.look(0, 6));
        refused("count", -1, list -> list.count(14));
    }

    private static void refusedForWantOfBytes() {
        refusedByEmpty("judge", -1000000, list -> list.judge());
        refusedByEmpty("learnt", -1000000, list -> list.learnt(0, 300, 0));
        refusedByEmpty("check", -2, list -> list.check());
        refusedByEmpty("custom", -1, list -> list.custom(0, 1));
    }

    private static void questionsChangeNothing() {
        refused("tie", 1, list -> list.tie(0, 0));
        refused("family", 1, list -> list.family(2, 9));
        refused("points", 12, list -> list.points(0, 1));
        refused("by", 'F', list -> list.by(0, 1, 0));
        refused("should", PAUL, list -> list.should(0, 1, 0));
        refused("must", 0, list -> list.must(0, 1, 0));
        refused("best", 0, list -> list.best(0));
        refused("grand", 1 << PAUL, list -> list.grand(0, 0));
        refused("look", 28, list -> list.look(0, 5));
        refused("count", 7, list -> list.count(0));
        refused("little", 0, list -> list.little(0));
    }

    /** What empties the tape leaves all else, be it a FAULT, a row that is no WAY, or a WAY. */
    private static void emptiedTapesChangeNothingElse() {
        List<ToLongFunction<FontList>> calls = List.of(list -> list.custom(0, 5), list -> list.judge(),
            list -> list.learnt(0, 300, 2), list -> list.check());
        for (int k = 0; k < calls.size(); k++) {
            for (String tape : new String[] {SHORT_ROW, "\7", SHORT_TEXT}) {
                FontList list = half(tape);
                calls.get(k).applyAsLong(list);
                alike("what empties the tape " + k, half(""), list);
            }
        }
    }
}
