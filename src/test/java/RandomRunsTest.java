import java.util.Random;

/** Runs of calls on the program and on the Oracle side by side: every answer must be the same. */
public final class RandomRunsTest {
    private static final int RUNS = 3000;
    /** The last round of questions and the look at all that was told still fit into the 512 calls of an object. */
    private static final int CALLS = 360;
    private static final long MOST_WAYS = 30000;

    private final Due due;
    private final Random random;
    private final FontList list = new FontList();
    private final Oracle oracle = new Oracle();
    private Oracle.Found found;
    private boolean searched;
    private final String run;
    private int calls;

    private RandomRunsTest(Due due, int seed) {
        this.due = due;
        this.random = new Random(seed);
        this.run = "run " + seed + ": ";
    }

    public static void main(String[] args) {
        Due due = new Due();
        int runs = args.length > 0 ? Integer.parseInt(args[0]) : RUNS;
        for (int seed = 0; seed < runs; seed++) {
            new RandomRunsTest(due, seed).go();
        }
        due.end("RandomRunsTest");
    }

    private int below(int n) {
        return random.nextInt(n);
    }

    /** Mostly within 0 to n - 1, at times just beside it. */
    private int about(int n) {
        int turn = below(25);
        return turn == 0 ? -1 : turn == 1 ? n : turn == 2 && below(4) == 0 ? random.nextInt() : n <= 0 ? 0 : below(n);
    }

    private void go() {
        int wide = 6 + below(14);
        int men = 1 + below(3);
        for (int k = 0; k < 4 + below(5); k++) {
            tellName(k < men ? 0 : k < men + 2 ? 1 : below(2));
        }
        for (int k = 0; k < 1 + below(4); k++) {
            tellCouple(wide);
        }
        for (int k = 0; k < 2 + below(8); k++) {
            tellFont(wide);
        }
        while (calls < CALLS) {
            if (below(6) == 0) {
                change(wide);
            } else {
                ask(wide);
            }
        }
        compareState();
        due.no(run + "more calls than an object is used for", calls > 512);
    }

    private void is(String call, long got, long want) {
        calls++;
        due.is(run + call, got, want);
    }

    private void tellName(int sex) {
        int says = 1 + below(12);
        searched = false;
        is("name", list.name(sex, says), oracle.name(sex, says));
    }

    private int nameOf(int sex) {
        if (below(30) == 0) {
            return about(oracle.names.size());
        }
        for (int turn = 0; turn < 40; turn++) {
            int n = below(Math.max(1, oracle.names.size()));
            if (n < oracle.names.size() && oracle.names.get(n).sex() == sex) {
                return n;
            }
        }
        return 0;
    }

    private int husband() {
        return below(4) > 0 ? 0 : nameOf(0);
    }

    private void tellCouple(int wide) {
        int husband = husband();
        int wife = nameOf(1);
        int wed = about(4);
        int last = wed + below(wide) + below(3) - 1;
        searched = false;
        is("couple", list.couple(husband, wife, wed, last), oracle.couple(husband, wife, wed, last));
    }

    private void tellFont(int wide) {
        int sex = below(3) == 0 ? 1 : 0;
        int name = nameOf(sex);
        int year = about(wide);
        int father = husband();
        int mother = below(3) == 0 ? nameOf(1) : -1;
        int sponsor = below(3) == 0 ? nameOf(sex) : -1;
        searched = false;
        is("christening", list.christening(name, year, father, mother, sponsor),
            oracle.christening(name, year, father, mother, sponsor));
    }

    private void change(int wide) {
        searched = false;
        switch (below(10)) {
            case 0 -> tellName(about(2));
            case 1 -> tellCouple(wide);
            case 2 -> {
                int couple = about(oracle.couples.size());
                int w = about(4);
                int name = below(3) == 0 ? -1 : nameOf(w & 1);
                is("parent", list.parent(couple, w, name) ? 1 : 0, oracle.parent(couple, w, name) ? 1 : 0);
            }
            case 3 -> tellFont(wide);
            case 4, 5 -> {
                int i = about(oracle.fonts.size());
                int year = below(5) == 0 ? -1 : below(30) == 0 ? 299 + below(2) : about(wide);
                is("died", list.died(i, year) ? 1 : 0, oracle.died(i, year) ? 1 : 0);
            }
            case 6 -> {
                int loss = below(3) == 0 ? about(101) : about(6);
                int alone = below(3) == 0 ? about(1001) : about(6);
                is("weighs", list.weighs(loss, alone) ? 1 : 0, oracle.weighs(loss, alone) ? 1 : 0);
            }
            case 7, 8 -> tellCustom();
            default -> {
                int a = about(4);
                int b = about(4);
                int year = about(wide);
                is("customs", list.customs(a, b, year) ? 1 : 0, oracle.customs(a, b, year) ? 1 : 0);
            }
        }
    }

    private void feed(String text) {
        for (int at = 0; at < text.length(); at += 20) {
            int[] word = new int[5];
            for (int k = 0; k < 20; k++) {
                word[k / 4] = word[k / 4] << 8 | (at + k < text.length() ? text.charAt(at + k) : below(256));
            }
            is("feed", list.feed(word[0], word[1], word[2], word[3], word[4]), oracle.feed(word));
        }
    }

    private void emptyTape() {
        is("custom to empty", list.custom(0, 1), oracle.custom(0, 1));
    }

    private void tellCustom() {
        if (oracle.tape.size() > 0 && below(8) > 0) {
            emptyTape();
        }
        String text = clauses();
        if (below(5) == 0) {
            int at = below(text.length());
            String signs = "FfMmPQSDnbxywtaec0123456789()[]!&|<>=+-*/%; q";
            text = text.substring(0, at) + signs.charAt(below(signs.length())) + text.substring(at + below(2));
        }
        text = text.length() > 170 ? text.substring(0, 170) : text;
        feed(text);
        int n = below(10) == 0 ? below(text.length() + 1) : text.length();
        int k = about(4);
        is("custom " + text, list.custom(k, n), oracle.custom(k, n));
    }

    private String clauses() {
        StringBuilder text = new StringBuilder();
        int most = below(8) == 0 ? 14 : 1 + below(7);
        for (int k = 0; k < most; k++) {
            String clause = "FfMmPQSD".charAt(below(8)) + "(" + condition(0) + ")";
            if (k > 0 && text.length() + clause.length() > 158) {
                break;
            }
            text.append(k > 0 ? ";" : "").append(clause);
        }
        return text.toString();
    }

    private String condition(int depth) {
        return below(4) == 0 ? part(depth) + "|" + part(depth) : part(depth);
    }

    private String part(int depth) {
        return below(4) == 0 ? piece(depth) + "&" + piece(depth) : piece(depth);
    }

    private String piece(int depth) {
        int turn = below(10);
        if (turn == 0 && depth < 7) {
            return "!" + piece(depth + 1);
        }
        if (turn == 1 && depth < 7) {
            return "(" + condition(depth + 1) + ")";
        }
        if (turn < 6) {
            return "n=" + (1 + below(4));
        }
        return sum(depth) + "<>=".charAt(below(3)) + sum(depth);
    }

    private String sum(int depth) {
        return below(4) == 0 ? term(depth) + "+-".charAt(below(2)) + sum(depth) : term(depth);
    }

    private String term(int depth) {
        return below(4) == 0 ? factor(depth) + "*/%".charAt(below(3)) + term(depth) : factor(depth);
    }

    private String factor(int depth) {
        int turn = below(12);
        if (turn == 0 && depth < 7) {
            return "[" + sum(depth + 1) + "]";
        }
        if (turn == 1) {
            return String.valueOf(below(below(10) == 0 ? 999999 : 100000));
        }
        return turn < 5 ? String.valueOf(below(4)) : String.valueOf("nbxywtaec".charAt(below(9)));
    }

    /** Half of the time all that can be tied to the couple, thinned out till it is a FAMILY. */
    private int set(int couple) {
        int size = oracle.fonts.size();
        int set = below(1 << size);
        if (below(20) == 0) {
            return about(1 << size);
        }
        for (int i = 0; i < size && below(8) > 0; i++) {
            int without = set & ~(1 << i);
            if (oracle.tie(i, couple) != 1 || oracle.family(couple, set & (1 << i + 1) - 1) == 0) {
                set = without;
            }
        }
        return set;
    }

    private void ask(int wide) {
        int couple = about(oracle.couples.size());
        int i = about(oracle.fonts.size());
        int set = set(couple);
        String of = "(" + couple + ", " + set + ", " + i + ")";
        switch (below(14)) {
            case 0 -> is("tie" + of, list.tie(i, couple), oracle.tie(i, couple));
            case 1 -> is("family" + of, list.family(couple, set), oracle.family(couple, set));
            case 2 -> is("points" + of, list.points(couple, set), oracle.points(couple, set));
            case 3 -> is("by" + of, list.by(couple, set, i), oracle.by(couple, set, i));
            case 4 -> is("should" + of, list.should(couple, set, i), oracle.should(couple, set, i));
            case 5, 6 -> {
                int sex = about(2);
                is("must" + of + sex, list.must(couple, set, sex), oracle.must(couple, set, sex));
            }
            case 7 -> {
                feedRow();
                is("judge", list.judge(), oracle.judge());
            }
            case 8 -> {
                feedRow();
                int from = about(wide);
                int to = from + below(wide) - (below(10) == 0 ? 3 : 0);
                int what = about(4);
                is("learnt " + from + " " + to + " " + what, list.learnt(from, to, what),
                    oracle.learnt(from, to, what));
            }
            case 9 -> {
                int what = about(6);
                is("look", list.look(i, what), oracle.look(i, what));
                int which = about(14);
                is("count", list.count(which), oracle.count(which));
            }
            default -> askWays(couple, i);
        }
    }

    private void feedRow() {
        if (oracle.tape.size() > 0) {
            emptyTape();
        }
        int size = oracle.fonts.size();
        int[] way = new int[size];
        StringBuilder text = new StringBuilder();
        for (int i = 0; i < size; i++) {
            int c = below(Math.max(1, oracle.couples.size()));
            boolean can = oracle.tie(i, c) == 1 && oracle.family(c, before(way, i, c)) == 1;
            way[i] = below(15) == 0 ? below(9) : can && below(6) > 0 ? c : 6;
            text.append((char) way[i]);
        }
        if (below(15) > 0) {
            feed(text.toString());
        }
    }

    private static int before(int[] way, int i, int couple) {
        int set = 1 << i;
        for (int k = 0; k < i; k++) {
            set |= way[k] == couple ? 1 << k : 0;
        }
        return set;
    }

    private void askWays(int couple, int i) {
        if (!searched) {
            found = oracle.search(MOST_WAYS);
            searched = true;
        }
        if (found == null) {
            return;
        }
        for (int what = -1; what < 5; what++) {
            is("ways " + what, list.ways(what), oracle.ways(found, what));
        }
        for (int k = 0; k < oracle.fonts.size(); k++) {
            is("best " + k, list.best(k), found.row[k]);
        }
        for (int c = -1; c < 8; c++) {
            is("sure " + i + " " + c, list.sure(i, c), oracle.sure(found, i, c));
        }
        int w = about(4);
        is("grand " + couple + " " + w, list.grand(couple, w), oracle.grand(found, couple, w));
        int much = about(below(2) == 0 ? 60 : 1001);
        is("little " + much, list.little(much), oracle.little(found, much));
        checkRow();
    }

    private void checkRow() {
        if (oracle.tape.size() > 0) {
            emptyTape();
        }
        StringBuilder text = new StringBuilder();
        for (int c : found.row) {
            text.append((char) (below(15) == 0 ? below(8) : c));
        }
        if (below(10) > 0) {
            feed(text.toString());
        }
        is("check", list.check(), oracle.check(found));
    }

    private void compareState() {
        for (int what = -1; what < 16; what++) {
            is("count " + what, list.count(what), oracle.count(what));
        }
        for (int i = -1; i < 11; i++) {
            for (int what = -1; what < 7; what++) {
                is("look " + i + " " + what, list.look(i, what), oracle.look(i, what));
            }
        }
    }
}
