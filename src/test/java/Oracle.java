import java.util.ArrayList;
import java.util.Arrays;
import java.util.List;

/**
 * The document once more, in its plainest and slowest form: texts are asked sign by sign, WAYS are gone
 * through one by one. It serves as what the program's answers are held against.
 */
final class Oracle {
    static final int CANNOT = -1000000;

    record Name(int sex, int says) { }
    record Couple(int husband, int wife, int wed, int last, int[] parents) { }
    record Font(int name, int year, int father, int mother, int sponsor, int[] died) { }

    static final class Refused extends RuntimeException {
        private static final long serialVersionUID = 1L;
    }

    static final class Fault extends RuntimeException {
        private static final long serialVersionUID = 1L;
        final int answer;

        Fault(int kind, int place) {
            answer = -1000 * kind - place;
        }
    }

    final List<Name> names = new ArrayList<>();
    final List<Couple> couples = new ArrayList<>();
    final List<Font> fonts = new ArrayList<>();
    final List<Integer> tape = new ArrayList<>();
    final String[] texts = new String[4];
    int loss = 10;
    int alone = 20;
    int a = -1;
    int b = -1;
    int change = -1;

    // ---- what is told

    private boolean isName(int n, int sex) {
        return n >= 0 && n < names.size() && names.get(n).sex() == sex;
    }

    int name(int sex, int says) {
        if (sex < 0 || sex > 1 || says < 1 || says > 100 || names.size() == 16) {
            return -1;
        }
        names.add(new Name(sex, says));
        return names.size() - 1;
    }

    int couple(int husband, int wife, int wed, int last) {
        if (!isName(husband, 0) || !isName(wife, 1) || wed < 0 || wed > 299 || last < wed || last > 299) {
            return -1;
        }
        if (couples.size() == 6) {
            return -1;
        }
        couples.add(new Couple(husband, wife, wed, last, new int[] {-1, -1, -1, -1}));
        return couples.size() - 1;
    }

    boolean parent(int couple, int w, int name) {
        if (couple < 0 || couple >= couples.size() || w < 0 || w > 3 || name != -1 && !isName(name, w % 2)) {
            return false;
        }
        couples.get(couple).parents()[w] = name;
        return true;
    }

    int christening(int name, int year, int father, int mother, int sponsor) {
        if (name < 0 || name >= names.size() || year < 0 || year > 299 || !isName(father, 0)) {
            return -1;
        }
        if (mother != -1 && !isName(mother, 1) || sponsor != -1 && !isName(sponsor, names.get(name).sex())) {
            return -1;
        }
        if (fonts.size() == 10) {
            return -1;
        }
        fonts.add(new Font(name, year, father, mother, sponsor, new int[] {-1}));
        return fonts.size() - 1;
    }

    boolean died(int i, int year) {
        if (i < 0 || i >= fonts.size() || year != -1 && (year < fonts.get(i).year() || year > 299)) {
            return false;
        }
        fonts.get(i).died()[0] = year;
        return true;
    }

    boolean weighs(int newLoss, int newAlone) {
        if (newLoss < 0 || newLoss > 100 || newAlone < 0 || newAlone > 1000) {
            return false;
        }
        loss = newLoss;
        alone = newAlone;
        return true;
    }

    int feed(int... words) {
        if (tape.size() + 20 > 200) {
            return -1;
        }
        for (int word : words) {
            tape.add(word >>> 24);
            tape.add(word >>> 16 & 255);
            tape.add(word >>> 8 & 255);
            tape.add(word & 255);
        }
        return tape.size();
    }

    int custom(int k, int n) {
        if (k < 0 || k > 3 || n < 1 || n > 160 || n > tape.size()) {
            return -1;
        }
        StringBuilder text = new StringBuilder();
        for (int i = 0; i < n; i++) {
            text.append((char) (int) tape.get(i));
        }
        tape.clear();
        try {
            Grammar grammar = new Grammar(text.toString());
            int clauses = grammar.text();
            texts[k] = text.toString();
            return clauses;
        } catch (Fault fault) {
            return fault.answer;
        }
    }

    boolean customs(int newA, int newB, int year) {
        if (newA < 0 || newA > 3 || newB < 0 || newB > 3 || year < 0 || year > 300) {
            return false;
        }
        a = newA;
        b = newB;
        change = year;
        return true;
    }

    // ---- the grammar, by looking only

    static final class Grammar {
        final String text;
        int at;

        Grammar(String text) {
            this.text = text;
        }

        boolean sees(String signs) {
            return at < text.length() && signs.indexOf(text.charAt(at)) >= 0;
        }

        void want(String signs) {
            if (!sees(signs)) {
                throw new Fault(1, at);
            }
            at++;
        }

        void open(int depth) {
            if (depth > 6) {
                throw new Fault(5, at);
            }
            at++;
        }

        int text() {
            int clauses = 0;
            while (true) {
                if (!sees("FfMmPQSD")) {
                    throw new Fault(1, at);
                }
                if (clauses == 12) {
                    throw new Fault(4, at);
                }
                at++;
                clauses++;
                want("(");
                c(1);
                want(")");
                if (at == text.length()) {
                    return clauses;
                }
                want(";");
            }
        }

        void c(int depth) {
            part(depth);
            while (sees("|")) {
                at++;
                part(depth);
            }
        }

        void part(int depth) {
            piece(depth);
            while (sees("&")) {
                at++;
                piece(depth);
            }
        }

        void piece(int depth) {
            if (sees("!")) {
                open(depth + 1);
                piece(depth + 1);
            } else if (sees("(")) {
                open(depth + 1);
                c(depth + 1);
                want(")");
            } else {
                e(depth);
                want("<>=");
                e(depth);
            }
        }

        void e(int depth) {
            factor(depth);
            while (sees("+-*/%")) {
                at++;
                factor(depth);
            }
        }

        void factor(int depth) {
            if (sees("[")) {
                open(depth + 1);
                e(depth + 1);
                want("]");
            } else if (sees("0123456789")) {
                int from = at;
                while (sees("0123456789")) {
                    if (at - from == 5) {
                        throw new Fault(2, at);
                    }
                    at++;
                }
            } else {
                want("nbxywtaec");
            }
        }
    }

    // ---- a CONDITION asked, as a tree made anew each time

    /** Asks the text of a C that is known to have no FAULT. */
    static boolean holds(String c, int[] facts) {
        try {
            return askC(c, facts);
        } catch (Refused refused) {
            return false;
        }
    }

    /** Parts of a text at signs that stand in no bracket; the signs themselves stand at odd places. */
    static List<String> split(String text, String signs) {
        List<String> parts = new ArrayList<>();
        int depth = 0;
        int from = 0;
        for (int i = 0; i < text.length(); i++) {
            char sign = text.charAt(i);
            if (sign == '(' || sign == '[') {
                depth++;
            } else if (sign == ')' || sign == ']') {
                depth--;
            } else if (depth == 0 && signs.indexOf(sign) >= 0) {
                parts.add(text.substring(from, i));
                parts.add(String.valueOf(sign));
                from = i + 1;
            }
        }
        parts.add(text.substring(from));
        return parts;
    }

    static boolean askC(String c, int[] facts) {
        List<String> parts = split(c, "|");
        for (int i = 0; i < parts.size(); i += 2) {
            if (askPart(parts.get(i), facts)) {
                return true;
            }
        }
        return false;
    }

    static boolean askPart(String part, int[] facts) {
        List<String> pieces = split(part, "&");
        for (int i = 0; i < pieces.size(); i += 2) {
            if (!askPiece(pieces.get(i), facts)) {
                return false;
            }
        }
        return true;
    }

    static boolean askPiece(String piece, int[] facts) {
        if (piece.charAt(0) == '!') {
            return !askPiece(piece.substring(1), facts);
        }
        if (piece.charAt(0) == '(') {
            return askC(piece.substring(1, piece.length() - 1), facts);
        }
        List<String> sides = split(piece, "<>=");
        int left = sum(sides.get(0), facts);
        int right = sum(sides.get(2), facts);
        return switch (sides.get(1)) {
            case "<" -> left < right;
            case ">" -> left > right;
            default -> left == right;
        };
    }

    static int sum(String e, int[] facts) {
        List<String> terms = split(e, "+-");
        int value = term(terms.get(0), facts);
        for (int i = 1; i < terms.size(); i += 2) {
            int next = term(terms.get(i + 1), facts);
            value = terms.get(i).equals("+") ? value + next : value - next;
        }
        return value;
    }

    static int term(String term, int[] facts) {
        List<String> factors = split(term, "*/%");
        int value = factor(factors.get(0), facts);
        for (int i = 1; i < factors.size(); i += 2) {
            int next = factor(factors.get(i + 1), facts);
            if (factors.get(i).equals("*")) {
                value *= next;
            } else if (next == 0) {
                throw new Refused();
            } else {
                value = factors.get(i).equals("/") ? value / next : value % next;
            }
        }
        return value;
    }

    static int factor(String factor, int[] facts) {
        if (factor.charAt(0) == '[') {
            return sum(factor.substring(1, factor.length() - 1), facts);
        }
        int fact = "nbxywtaec".indexOf(factor.charAt(0));
        return fact >= 0 ? facts[fact] : Integer.parseInt(factor);
    }

    // ---- FAMILIES

    int sexOf(int i) {
        return names.get(fonts.get(i).name()).sex();
    }

    int tie(int i, int couple) {
        if (i < 0 || i >= fonts.size() || couple < 0 || couple >= couples.size()) {
            return -1;
        }
        Font font = fonts.get(i);
        Couple pair = couples.get(couple);
        boolean can = font.father() == pair.husband() && (font.mother() == -1 || font.mother() == pair.wife())
            && font.year() >= pair.wed() && font.year() <= pair.last();
        return can ? 1 : 0;
    }

    List<Integer> children(int set) {
        List<Integer> children = new ArrayList<>();
        for (int i = 0; i < fonts.size(); i++) {
            if ((set >> i & 1) == 1) {
                children.add(i);
            }
        }
        children.sort((p, q) -> fonts.get(p).year() != fonts.get(q).year()
            ? fonts.get(p).year() - fonts.get(q).year() : p - q);
        return children;
    }

    int family(int couple, int set) {
        if (couple < 0 || couple >= couples.size() || set < 0 || set >= 1 << fonts.size()) {
            return -1;
        }
        List<Integer> children = children(set);
        for (int p = 0; p < children.size(); p++) {
            if (tie(children.get(p), couple) != 1) {
                return 0;
            }
            Font elder = fonts.get(children.get(p));
            int sameYear = 0;
            for (int q = 0; q < children.size(); q++) {
                Font other = fonts.get(children.get(q));
                sameYear += other.year() == elder.year() ? 1 : 0;
                if (Math.abs(other.year() - elder.year()) == 1) {
                    return 0;
                }
                boolean buried = elder.died()[0] != -1 && elder.died()[0] <= other.year();
                if (q > p && other.name() == elder.name() && !buried) {
                    return 0;
                }
            }
            if (sameYear > 2) {
                return 0;
            }
        }
        return 1;
    }

    boolean buriedBy(int i, int year) {
        return fonts.get(i).died()[0] != -1 && fonts.get(i).died()[0] <= year;
    }

    int deadOne(List<Integer> children, int j) {
        int year = fonts.get(children.get(j)).year();
        int dead = -1;
        for (int k = 0; k < j; k++) {
            int elder = children.get(k);
            boolean renamed = false;
            for (int m = k + 1; m < j; m++) {
                renamed |= fonts.get(children.get(m)).name() == fonts.get(elder).name();
            }
            if (sexOf(elder) == sexOf(children.get(j)) && buriedBy(elder, year) && !renamed) {
                dead = fonts.get(elder).name();
            }
        }
        return dead;
    }

    int[] facts(int couple, List<Integer> children, int j) {
        int i = children.get(j);
        int year = fonts.get(i).year();
        int n = 1;
        int e = 0;
        int same = 0;
        for (int k = 0; k < children.size(); k++) {
            int other = children.get(k);
            same += fonts.get(other).year() == year ? 1 : 0;
            if (k < j && sexOf(other) == sexOf(i)) {
                n++;
                e += buriedBy(other, year) ? 1 : 0;
            }
        }
        return new int[] {n, j, sexOf(i), year, year - couples.get(couple).wed(), same == 2 ? 1 : 0,
            fonts.get(i).name(), e, children.size()};
    }

    /** The letter of a child, or 0; so many more of its SEX being ahead of it. */
    char letter(int couple, List<Integer> children, int j, int more, int[] pair) {
        int i = children.get(j);
        int k = fonts.get(i).year() < pair[2] ? pair[0] : pair[1];
        if (k < 0 || texts[k] == null) {
            return 0;
        }
        int[] facts = facts(couple, children, j);
        facts[0] += more;
        List<String> clauses = split(texts[k], ";");
        for (int q = 0; q < clauses.size(); q += 2) {
            String clause = clauses.get(q);
            char letter = clause.charAt(0);
            boolean there = switch (letter) {
                case 'F', 'M', 'P' -> sexOf(i) == 0;
                case 'f', 'm', 'Q' -> sexOf(i) == 1;
                case 'S' -> fonts.get(i).sponsor() != -1;
                default -> deadOne(children, j) != -1;
            };
            if (there && holds(clause.substring(2, clause.length() - 1), facts)) {
                return letter;
            }
        }
        return 0;
    }

    int[] pair() {
        return new int[] {a, b, change};
    }

    int named(int couple, List<Integer> children, int j, char letter, int[] parents) {
        int w = "FfMm".indexOf(letter);
        if (letter != 0 && w >= 0) {
            return parents[w];
        }
        return switch (letter) {
            case 'P' -> couples.get(couple).husband();
            case 'Q' -> couples.get(couple).wife();
            case 'S' -> fonts.get(children.get(j)).sponsor();
            case 'D' -> deadOne(children, j);
            default -> -2;
        };
    }

    int gain(int i, int due) {
        int name = fonts.get(i).name();
        return due == -2 ? 0 : due == name ? names.get(name).says() : -loss;
    }

    /** For a parent w: the NAMES by which those of its letter have most, as bits. */
    int likely(int couple, List<Integer> children, int w, int[] pair) {
        List<Integer> its = new ArrayList<>();
        for (int j = 0; j < children.size(); j++) {
            if (letter(couple, children, j, 0, pair) == "FfMm".charAt(w)) {
                its.add(children.get(j));
            }
        }
        int bits = 0;
        int most = Integer.MIN_VALUE;
        for (int v = 0; v < names.size() && !its.isEmpty(); v++) {
            if (names.get(v).sex() == w % 2) {
                int sum = 0;
                for (int i : its) {
                    sum += gain(i, v);
                }
                if (sum > most) {
                    most = sum;
                    bits = 0;
                }
                if (sum == most) {
                    bits |= 1 << v;
                }
            }
        }
        return bits;
    }

    int[] parentsOf(int couple, List<Integer> children, int[] pair) {
        int[] parents = couples.get(couple).parents().clone();
        for (int w = 0; w < 4; w++) {
            if (parents[w] == -1) {
                int bits = likely(couple, children, w, pair);
                parents[w] = bits == 0 ? -1 : Integer.numberOfTrailingZeros(bits);
            }
        }
        return parents;
    }

    int pointsBy(int couple, int set, int[] pair) {
        List<Integer> children = children(set);
        int[] parents = parentsOf(couple, children, pair);
        int sum = 0;
        for (int j = 0; j < children.size(); j++) {
            char letter = letter(couple, children, j, 0, pair);
            sum += gain(children.get(j), named(couple, children, j, letter, parents));
        }
        return sum;
    }

    int points(int couple, int set) {
        return family(couple, set) == 1 ? pointsBy(couple, set, pair()) : CANNOT;
    }

    int by(int couple, int set, int i) {
        if (family(couple, set) != 1 || i < 0 || i > 9 || (set >> i & 1) == 0) {
            return -1;
        }
        List<Integer> children = children(set);
        return letter(couple, children, children.indexOf(i), 0, pair());
    }

    int should(int couple, int set, int i) {
        int letter = by(couple, set, i);
        if (letter == -1) {
            return -1;
        }
        List<Integer> children = children(set);
        int[] parents = parentsOf(couple, children, pair());
        return named(couple, children, children.indexOf(i), (char) letter, parents);
    }

    int must(int couple, int set, int sex) {
        if (family(couple, set) != 1 || sex < 0 || sex > 1) {
            return -1;
        }
        List<Integer> children = children(set);
        List<Integer> places = new ArrayList<>();
        for (int j = 0; j < children.size(); j++) {
            if (sexOf(children.get(j)) == sex) {
                places.add(j);
            }
        }
        for (int k = 0; k <= 5; k++) {
            if (anyPlacing(couple, children, places, 0, 0, k, new int[places.size()])) {
                return k;
            }
        }
        return -2;
    }

    /** All rows of numbers ahead that never fall and end with k at most. */
    private boolean anyPlacing(int couple, List<Integer> children, List<Integer> places, int p, int least, int k,
            int[] ahead) {
        if (p == places.size()) {
            return fits(couple, children, places, ahead);
        }
        for (int more = least; more <= k; more++) {
            ahead[p] = more;
            if (anyPlacing(couple, children, places, p + 1, more, k, ahead)) {
                return true;
            }
        }
        return false;
    }

    private boolean fits(int couple, List<Integer> children, List<Integer> places, int[] ahead) {
        int[] parents = couples.get(couple).parents().clone();
        for (int p = 0; p < places.size(); p++) {
            int j = places.get(p);
            char letter = letter(couple, children, j, ahead[p], pair());
            int own = fonts.get(children.get(j)).name();
            int w = letter == 0 ? -1 : "FfMm".indexOf(letter);
            // The first child of a parent who is not told settles that one's NAME.
            if (w >= 0 && parents[w] == -1) {
                parents[w] = own;
            }
            int due = named(couple, children, j, letter, parents);
            if (due != -2 && due != own) {
                return false;
            }
        }
        return true;
    }

    // ---- WAYS

    final class Found {
        long most = Long.MIN_VALUE;
        long next = Long.MIN_VALUE;
        long bests;
        long all;
        int[] row;
        final boolean[][] ever = new boolean[10][7];
        final boolean[][] always = new boolean[10][7];

        void see(int[] way) {
            long points = worth(way, pair());
            all++;
            for (int i = 0; i < way.length; i++) {
                ever[i][way[i]] = true;
            }
            if (points > most) {
                next = most;
                most = points;
                bests = 0;
                row = way.clone();
                for (boolean[] one : always) {
                    Arrays.fill(one, true);
                }
            } else if (points < most && points > next) {
                next = points;
            }
            if (points == most) {
                bests++;
                for (int i = 0; i < way.length; i++) {
                    for (int c = 0; c < 7; c++) {
                        always[i][c] &= way[i] == c;
                    }
                }
            }
        }
    }

    int setOf(int[] way, int couple) {
        int set = 0;
        for (int i = 0; i < way.length; i++) {
            set |= way[i] == couple ? 1 << i : 0;
        }
        return set;
    }

    private int[][] worths;

    int worth(int[] way, int[] pair) {
        int sum = -alone * Integer.bitCount(setOf(way, 6));
        for (int c = 0; c < couples.size(); c++) {
            int set = setOf(way, c);
            if (worths == null) {
                sum += pointsBy(c, set, pair);
            } else {
                if (worths[c][set] == CANNOT) {
                    worths[c][set] = pointsBy(c, set, pair);
                }
                sum += worths[c][set];
            }
        }
        return sum;
    }

    /** All WAYS one by one, from the least row on; null if they are more than the bound. */
    Found search(long bound) {
        worths = new int[6][1024];
        for (int[] one : worths) {
            Arrays.fill(one, CANNOT);
        }
        Found found = new Found();
        boolean within = go(new int[fonts.size()], 0, found, bound);
        worths = null;
        return within ? found : null;
    }

    private boolean go(int[] way, int i, Found found, long bound) {
        if (i == way.length) {
            found.see(way);
            return found.all <= bound;
        }
        for (int c = 0; c <= 6; c++) {
            int set = 1 << i;
            for (int k = 0; k < i; k++) {
                set |= way[k] == c ? 1 << k : 0;
            }
            if (c == 6 || c < couples.size() && family(c, set) == 1) {
                way[i] = c;
                if (!go(way, i + 1, found, bound)) {
                    return false;
                }
            }
        }
        return true;
    }

    long ways(Found found, int what) {
        return switch (what) {
            case 0 -> found.most;
            case 1 -> found.bests;
            case 2 -> found.all;
            case 3 -> found.next == Long.MIN_VALUE ? -1 : found.most - found.next;
            default -> -1;
        };
    }

    int sure(Found found, int i, int couple) {
        if (i < 0 || i >= fonts.size() || couple != 6 && (couple < 0 || couple >= couples.size())) {
            return -1;
        }
        return found.always[i][couple] ? 2 : found.ever[i][couple] ? 1 : 0;
    }

    int grand(Found found, int couple, int w) {
        if (couple < 0 || couple >= couples.size() || w < 0 || w > 3) {
            return -1;
        }
        int name = couples.get(couple).parents()[w];
        return name != -1 ? 1 << name : likely(couple, children(setOf(found.row, couple)), w, pair());
    }

    int little(Found found, int much) {
        if (much < 0 || much > 1000) {
            return -1;
        }
        int bits = 0;
        for (int i = 0; i < fonts.size(); i++) {
            int[] way = found.row.clone();
            way[i] = 6;
            if (found.row[i] != 6 && found.most - worth(way, pair()) < much) {
                bits |= 1 << i;
            }
        }
        return bits;
    }

    int check(Found found) {
        if (tape.size() < fonts.size()) {
            return -2;
        }
        int wrong = -1;
        for (int i = fonts.size() - 1; i >= 0; i--) {
            wrong = tape.get(i) != found.row[i] ? i : wrong;
        }
        tape.clear();
        return wrong;
    }

    private int[] takeRow() {
        int[] way = new int[fonts.size()];
        for (int i = 0; i < way.length; i++) {
            way[i] = tape.get(i);
        }
        tape.clear();
        return way;
    }

    private int faultOf(int[] way) {
        for (int i = 0; i < way.length; i++) {
            if (way[i] != 6 && (way[i] >= couples.size() || tie(i, way[i]) != 1)) {
                return -2000000 - i;
            }
        }
        for (int c = 0; c < couples.size(); c++) {
            if (family(c, setOf(way, c)) != 1) {
                return -3000000 - c;
            }
        }
        return 0;
    }

    int judge() {
        if (tape.size() < fonts.size()) {
            return CANNOT;
        }
        int[] way = takeRow();
        int fault = faultOf(way);
        return fault != 0 ? fault : worth(way, pair());
    }

    int learnt(int from, int to, int what) {
        boolean any = false;
        for (String text : texts) {
            any |= text != null;
        }
        if (from < 0 || to < from || to > 300 || what < 0 || what > 3 || !any || tape.size() < fonts.size()) {
            return CANNOT;
        }
        int[] way = takeRow();
        if (faultOf(way) != 0) {
            return -2000000;
        }
        int[] found = {-1, -1, -1, Integer.MIN_VALUE};
        for (int p = 0; p < 4; p++) {
            for (int q = 0; q < 4; q++) {
                for (int year = from; year <= to && texts[p] != null && texts[q] != null; year++) {
                    int sum = worth(way, new int[] {p, q, year});
                    if (sum > found[3]) {
                        found = new int[] {p, q, year, sum};
                    }
                }
            }
        }
        return found[what];
    }

    int look(int i, int what) {
        if (i < 0 || i >= fonts.size()) {
            return -1;
        }
        Font font = fonts.get(i);
        return switch (what) {
            case 0 -> font.name();
            case 1 -> font.year();
            case 2 -> font.father();
            case 3 -> font.mother();
            case 4 -> font.sponsor();
            case 5 -> font.died()[0];
            default -> -1;
        };
    }

    int count(int what) {
        return switch (what) {
            case 0 -> names.size();
            case 1 -> couples.size();
            case 2 -> fonts.size();
            case 3 -> tape.size();
            case 4 -> a;
            case 5 -> b;
            case 6 -> change;
            case 10, 11, 12, 13 -> texts[what - 10] == null ? 0 : split(texts[what - 10], ";").size() / 2 + 1;
            default -> -1;
        };
    }
}
