import java.util.ArrayList;
import java.util.Arrays;
import java.util.List;

/**
 * Every call with arguments on, just within and just beside each of its bounds, on the program and on the Oracle:
 * none may throw, and both must answer alike.
 */
public final class ArgumentsTest {
    private static final Due due = new Due();
    private static final int LEAST = Integer.MIN_VALUE;
    private static final int GREATEST = Integer.MAX_VALUE;
    private static final int MOST_CALLS = 300;
    private static final long MOST_WAYS = 200000;

    private static final int[] SEX = {-1, 0, 1, 2, LEAST, GREATEST};
    private static final int[] NAME = {-2, -1, 0, 1, 2, 5, 6, 7, 15, 16, 31, 32, LEAST, GREATEST};
    private static final int[] YEAR = {-2, -1, 0, 1, 10, 20, 150, 298, 299, 300, 301, LEAST, GREATEST};
    private static final int[] COUPLE = {-1, 0, 1, 2, 5, 6, 7, 32, LEAST, GREATEST};
    private static final int[] FONT = {-1, 0, 1, 4, 5, 9, 10, 31, 32, LEAST, GREATEST};
    private static final int[] SET = {-1, 0, 1, 2, 5, 31, 32, 512, 1023, 1024, LEAST, GREATEST};
    private static final int[] WHAT = {-1, 0, 1, 2, 3, 4, 5, 6, 7, 9, 10, 13, 14, LEAST, GREATEST};
    private static final int[] BYTES = {-1, 0, 1, 6, 13, 20, 21, 160, 161, 200, LEAST, GREATEST};
    private static final int[] MUCH = {-1, 0, 1, 9, 10, 20, 99, 100, 101, 999, 1000, 1001, LEAST, GREATEST};

    /** The program and the Oracle, told the same. */
    private static final class Pair {
        final FontList list = new FontList();
        final Oracle oracle = new Oracle();
        Oracle.Found found;

        /** Five CHRISTENINGS for two COUPLES, or ten for six; or nothing at all. */
        Pair(int size) {
            for (int k = 0; k < (size == 0 ? 0 : size == 1 ? 7 : 16); k++) {
                tell("name", k % 2, 3 + k);
            }
            for (int c = 0; c < (size == 0 ? 0 : size == 1 ? 2 : 6); c++) {
                tell("couple", 0, 1 + 2 * (c % 3), 10 * c, 299 - c);
            }
            for (int i = 0; i < (size == 0 ? 0 : size == 1 ? 5 : 10); i++) {
                tell("christening", size == 1 ? i + 2 : i + 3, 20 * i, 0, size == 1 ? -1 : 2 * (i % 3) + 1, -1);
            }
            if (size > 0) {
                String text = "F(n=1);f(n=1);P(n>1)";
                int[] words = new int[5];
                for (int k = 0; k < text.length(); k++) {
                    words[k / 4] = words[k / 4] << 8 | text.charAt(k);
                }
                tell("feed", words);
                tell("custom", 0, 20);
                tell("customs", 0, 1, 100);
            }
        }

        void tell(String call, int... x) {
            due.is(call + Arrays.toString(x), listAnswers(call, x), oracleAnswers(call, x));
        }

        private static long truth(boolean answer) {
            return answer ? 1 : 0;
        }

        private long listAnswers(String call, int[] x) {
            return switch (call) {
                case "name" -> list.name(x[0], x[1]);
                case "couple" -> list.couple(x[0], x[1], x[2], x[3]);
                case "parent" -> truth(list.parent(x[0], x[1], x[2]));
                case "christening" -> list.christening(x[0], x[1], x[2], x[3], x[4]);
                case "died" -> truth(list.died(x[0], x[1]));
                case "weighs" -> truth(list.weighs(x[0], x[1]));
                case "feed" -> list.feed(x[0], x[1], x[2], x[3], x[4]);
                case "custom" -> list.custom(x[0], x[1]);
                case "customs" -> truth(list.customs(x[0], x[1], x[2]));
                case "tie" -> list.tie(x[0], x[1]);
                case "family" -> list.family(x[0], x[1]);
                case "points" -> list.points(x[0], x[1]);
                case "by" -> list.by(x[0], x[1], x[2]);
                case "should" -> list.should(x[0], x[1], x[2]);
                case "best" -> list.best(x[0]);
                case "ways" -> list.ways(x[0]);
                case "sure" -> list.sure(x[0], x[1]);
                case "grand" -> list.grand(x[0], x[1]);
                case "must" -> list.must(x[0], x[1], x[2]);
                case "judge" -> list.judge();
                case "learnt" -> list.learnt(x[0], x[1], x[2]);
                case "little" -> list.little(x[0]);
                case "check" -> list.check();
                case "look" -> list.look(x[0], x[1]);
                default -> list.count(x[0]);
            };
        }

        private long oracleAnswers(String call, int[] x) {
            return switch (call) {
                case "name" -> oracle.name(x[0], x[1]);
                case "couple" -> oracle.couple(x[0], x[1], x[2], x[3]);
                case "parent" -> truth(oracle.parent(x[0], x[1], x[2]));
                case "christening" -> oracle.christening(x[0], x[1], x[2], x[3], x[4]);
                case "died" -> truth(oracle.died(x[0], x[1]));
                case "weighs" -> truth(oracle.weighs(x[0], x[1]));
                case "feed" -> oracle.feed(x);
                case "custom" -> oracle.custom(x[0], x[1]);
                case "customs" -> truth(oracle.customs(x[0], x[1], x[2]));
                case "tie" -> oracle.tie(x[0], x[1]);
                case "family" -> oracle.family(x[0], x[1]);
                case "points" -> oracle.points(x[0], x[1]);
                case "by" -> oracle.by(x[0], x[1], x[2]);
                case "should" -> oracle.should(x[0], x[1], x[2]);
                case "must" -> oracle.must(x[0], x[1], x[2]);
                case "judge" -> oracle.judge();
                case "learnt" -> oracle.learnt(x[0], x[1], x[2]);
                case "look" -> oracle.look(x[0], x[1]);
                case "count" -> oracle.count(x[0]);
                default -> oracleOfWays(call, x);
            };
        }

        private long oracleOfWays(String call, int[] x) {
            if (found == null) {
                found = oracle.search(MOST_WAYS);
            }
            return switch (call) {
                case "best" -> x[0] < 0 || x[0] >= oracle.fonts.size() ? -1 : found.row[x[0]];
                case "ways" -> oracle.ways(found, x[0]);
                case "sure" -> oracle.sure(found, x[0], x[1]);
                case "grand" -> oracle.grand(found, x[0], x[1]);
                case "little" -> oracle.little(found, x[0]);
                default -> oracle.check(found);
            };
        }

        void compare() {
            for (int what = 0; what < 14; what++) {
                tell("count", what);
            }
            for (int i = 0; i < 10; i++) {
                for (int what = 0; what < 6; what++) {
                    tell("look", i, what);
                }
                tell("tie", i, 0);
                tell("points", 1, 1 << i);
            }
        }
    }

    public static void main(String[] args) {
        for (int size = 0; size < 3; size++) {
            tellings(size);
            questions(size);
            tapes(size);
        }
        due.end("ArgumentsTest");
    }

    /** Goes through all rows of arguments, on a new pair before the calls become too many. */
    private static void each(int size, String call, int[]... edges) {
        Pair pair = new Pair(size);
        int calls = 0;
        for (int[] x : rows(edges)) {
            pair.tell(call, x);
            calls++;
            if (calls == MOST_CALLS) {
                pair.compare();
                pair = new Pair(size);
                calls = 0;
            }
        }
        pair.compare();
    }

    /** All rows of up to three arguments; of more, those in which two at most differ from the third of each list on. */
    private static List<int[]> rows(int[][] edges) {
        List<int[]> rows = new ArrayList<>();
        fill(edges, new int[edges.length], 0, 0, rows);
        return rows;
    }

    private static void fill(int[][] edges, int[] row, int at, int strange, List<int[]> rows) {
        if (at == row.length) {
            rows.add(row.clone());
            return;
        }
        for (int k = 0; k < edges[at].length; k++) {
            boolean plain = k == Math.min(2, edges[at].length - 1);
            if (row.length <= 3 || plain || strange < 2) {
                row[at] = edges[at][k];
                fill(edges, row, at + 1, strange + (plain ? 0 : 1), rows);
            }
        }
    }

    private static void tellings(int size) {
        each(size, "name", SEX, MUCH);
        each(size, "couple", NAME, new int[] {-1, 0, 1, 2, 15, 16}, YEAR, YEAR);
        each(size, "parent", COUPLE, new int[] {-1, 0, 1, 2, 3, 4, LEAST, GREATEST}, NAME);
        each(size, "christening", NAME, YEAR, NAME, new int[] {-2, 0, -1, 1, 6, 15, 16}, new int[] {-2, 0, -1, 1, 6, 16});
        each(size, "died", FONT, YEAR);
        each(size, "weighs", MUCH, MUCH);
        each(size, "customs", new int[] {-1, 0, 1, 3, 4, LEAST, GREATEST}, new int[] {-1, 0, 1, 3, 4}, YEAR);
    }

    private static void questions(int size) {
        each(size, "tie", FONT, COUPLE);
        each(size, "family", COUPLE, SET);
        each(size, "points", COUPLE, SET);
        each(size, "by", COUPLE, SET, FONT);
        each(size, "should", COUPLE, SET, FONT);
        each(size, "must", COUPLE, SET, SEX);
        each(size, "best", FONT);
        each(size, "ways", WHAT);
        each(size, "sure", FONT, COUPLE);
        each(size, "grand", COUPLE, new int[] {-1, 0, 1, 2, 3, 4, LEAST, GREATEST});
        each(size, "little", MUCH);
        each(size, "look", FONT, WHAT);
        each(size, "count", WHAT);
    }

    private static void tapes(int size) {
        int[] word = {0, 0x06060606, 0x50286e3d, LEAST, GREATEST, -1};
        each(size, "feed", word, word, word, word, word);
        for (int first : word) {
            for (int n : BYTES) {
                for (int k : new int[] {-1, 0, 3, 4}) {
                    Pair pair = new Pair(size);
                    pair.tell("feed", first, 0x31293b51, 0x286e3d31, 0x29202020, 0);
                    pair.tell("custom", k, n);
                    pair.tell("count", 3);
                }
            }
            for (int from : YEAR) {
                for (int to : YEAR) {
                    Pair pair = new Pair(size);
                    pair.tell("feed", first, 0x06060606, 0x06060606, 0x06060606, 0);
                    pair.tell("learnt", from, to, Math.floorMod(from + to, 5));
                    pair.tell("count", 3);
                    pair.tell("judge");
                }
            }
            Pair pair = new Pair(size);
            pair.tell("check");
            pair.tell("feed", first, 0x06060606, 0x06060606, 0x06060606, 0);
            pair.tell("check");
            pair.tell("judge");
        }
    }
}
