/**
 * Families put together from christenings that give hardly more than names.
 * The words in capitals are those of the document, which says what each call answers.
 */
public final class FontList {
    public static final int NONE = -1;

    private static final int FREE = -2;
    private static final int NOBODY = 6;
    private static final int NO_POINTS = -1000000;
    private static final int NO_TIE = -2000000;
    private static final int NO_WAY = -2000000;
    private static final int NO_FAMILY = -3000000;

    private static final int MEN = 0;
    private static final int WOMEN = 1;
    private static final int LAST_YEAR = 299;
    private static final int LAST_CHANGE = 300;
    private static final int MOST_NAMES = 16;
    private static final int MOST_COUPLES = 6;
    private static final int MOST_CHRISTENINGS = 10;
    private static final int MOST_CUSTOMS = 4;
    private static final int MOST_TEXT = 160;
    private static final int MOST_CLAUSES = 12;
    private static final int MOST_MISSING = 5;

    /** The first four stand as the parents of a COUPLE do, so that a letter's place is its parent's. */
    private static final String LETTERS = "FfMmPQSD";
    private static final int PARENTS = 4;
    private static final int FATHER = 4;
    private static final int MOTHER = 5;
    private static final int SPONSOR = 6;
    private static final int DEAD = 7;
    private static final int FOR_SONS = 0b00010101;
    private static final int FOR_DAUGHTERS = 0b00101010;
    private static final String FACTS = "nbxywtaec";

    private final Books books = new Books();
    private final Tape tape = new Tape();
    private final Custom[] told = new Custom[MOST_CUSTOMS];
    private final Reader reader = new Reader();
    private final Usage usage = new Usage(told);
    private final Usage trial = new Usage(told);
    private final Family household = new Family(books);
    private final Row row = new Row(books, household);
    private final Ways search = new Ways(books, household);

    public FontList() {
        for (int k = 0; k < told.length; k++) {
            told[k] = new Custom();
        }
    }

    public int name(int sex, int says) {
        int number = books.names.add(sex, says);
        search.forget();
        return number;
    }

    public int couple(int husband, int wife, int wed, int last) {
        if (!books.names.has(husband, MEN) || !books.names.has(wife, WOMEN)) {
            return NONE;
        }
        int number = books.couples.add(husband, wife, wed, last);
        search.forget();
        return number;
    }

    public boolean parent(int couple, int w, int name) {
        if (!books.couples.has(couple) || w < 0 || w >= PARENTS) {
            return false;
        }
        if (name != NONE && !books.names.has(name, w & 1)) {
            return false;
        }
        books.couples.tellParent(couple, w, name);
        search.forget();
        return true;
    }

    public int christening(int name, int year, int father, int mother, int sponsor) {
        Names names = books.names;
        if (!names.has(name, MEN) && !names.has(name, WOMEN) || !names.has(father, MEN)) {
            return NONE;
        }
        if (mother != NONE && !names.has(mother, WOMEN)) {
            return NONE;
        }
        if (sponsor != NONE && !names.has(sponsor, names.sex[name])) {
            return NONE;
        }
        int number = books.fonts.add(name, year, father, mother, sponsor);
        search.forget();
        return number;
    }

    public boolean died(int i, int year) {
        if (!books.fonts.has(i)) {
            return false;
        }
        if (year != NONE && (year < books.fonts.year[i] || year > LAST_YEAR)) {
            return false;
        }
        books.fonts.gone[i] = year;
        search.forget();
        return true;
    }

    public boolean weighs(int loss, int alone) {
        if (loss < 0 || loss > 100 || alone < 0 || alone > 1000) {
            return false;
        }
        books.loss = loss;
        books.alone = alone;
        search.forget();
        return true;
    }

    public int feed(int a, int b, int c, int d, int e) {
        if (!tape.hasRoom()) {
            return NONE;
        }
        tape.append(a);
        tape.append(b);
        tape.append(c);
        tape.append(d);
        tape.append(e);
        return tape.size;
    }

    public int custom(int k, int n) {
        if (k < 0 || k >= told.length || n < 1 || n > MOST_TEXT || n > tape.size) {
            return NONE;
        }
        int fault = reader.read(tape, n);
        tape.clear();
        if (fault != 0) {
            return fault;
        }
        told[k] = reader.exchange(told[k]);
        search.forget();
        return usage.clausesOf(k);
    }

    public boolean customs(int a, int b, int year) {
        if (a < 0 || a >= told.length || b < 0 || b >= told.length || year < 0 || year > LAST_CHANGE) {
            return false;
        }
        usage.tell(a, b, year);
        search.forget();
        return true;
    }

    public int tie(int i, int couple) {
        if (!books.fonts.has(i) || !books.couples.has(couple)) {
            return NONE;
        }
        return books.canTie(i, couple) ? 1 : 0;
    }

    public int family(int couple, int set) {
        if (!books.knows(couple, set)) {
            return NONE;
        }
        return household.gather(couple, set) ? 1 : 0;
    }

    public int points(int couple, int set) {
        return books.knows(couple, set) ? household.worth(couple, set, usage) : NO_POINTS;
    }

    public int by(int couple, int set, int i) {
        int place = placeAsked(couple, set, i);
        if (place == NONE) {
            return NONE;
        }
        int letter = household.letterAt(place);
        return letter < 0 || letter >= LETTERS.length() ? 0 : LETTERS.charAt(letter);
    }

    public int should(int couple, int set, int i) {
        int place = placeAsked(couple, set, i);
        return place == NONE ? NONE : household.due(place);
    }

    /** The place of a CHRISTENING among the children of a FAMILY whose CUSTOM has been asked. */
    private int placeAsked(int couple, int set, int i) {
        if (!books.knows(couple, set) || !books.fonts.has(i)) {
            return NONE;
        }
        return household.worth(couple, set, usage) == NO_POINTS ? NONE : household.placeOf(i);
    }

    public int best(int i) {
        if (!books.fonts.has(i)) {
            return NONE;
        }
        search.settle(usage);
        return search.coupleOf(i);
    }

    public long ways(int what) {
        if (what < 0 || what > 3) {
            return NONE;
        }
        search.settle(usage);
        switch (what) {
            case 0:
                return search.mostPoints();
            case 1:
                return search.howManyBest();
            case 2:
                return search.howMany();
            default:
                return search.gap();
        }
    }

    public int sure(int i, int couple) {
        if (!books.fonts.has(i) || couple != NOBODY && !books.couples.has(couple)) {
            return NONE;
        }
        // A child alone with a COUPLE that it can have is a FAMILY: NEVER is what can't be tied.
        if (couple != NOBODY && !books.canTie(i, couple)) {
            return 0;
        }
        search.settle(usage);
        return search.alwaysOf(i) == couple ? 2 : 1;
    }

    public int grand(int couple, int w) {
        if (!books.couples.has(couple) || w < 0 || w >= PARENTS) {
            return NONE;
        }
        int name = books.couples.parentOf(couple, w);
        if (name != NONE) {
            return 1 << name;
        }
        search.settle(usage);
        household.worth(couple, search.familyOf(couple), usage);
        return household.namesFor(w);
    }

    public int must(int couple, int set, int sex) {
        if (!books.knows(couple, set) || sex != MEN && sex != WOMEN) {
            return NONE;
        }
        return household.gather(couple, set) ? household.missing(sex, usage) : NONE;
    }

    public int judge() {
        if (tape.size < books.fonts.size) {
            return NO_POINTS;
        }
        int fault = row.take(tape);
        return fault == 0 ? row.worthBy(usage) : fault;
    }

    public int learnt(int from, int to, int what) {
        if (from < 0 || to < from || to > LAST_CHANGE || what < 0 || what > 3) {
            return NO_POINTS;
        }
        if (!trial.anyTold() || tape.size < books.fonts.size) {
            return NO_POINTS;
        }
        if (row.take(tape) != 0) {
            return NO_WAY;
        }
        int most = row.learn(trial, from, to);
        switch (what) {
            case 0:
                return trial.ahead;
            case 1:
                return trial.since;
            case 2:
                return trial.change;
            default:
                return most;
        }
    }

    public int little(int much) {
        if (much < 0 || much > 1000) {
            return NONE;
        }
        search.settle(usage);
        int bits = 0;
        for (int i = 0; i < books.fonts.size; i++) {
            int couple = search.coupleOf(i);
            if (couple != NOBODY && fewerWithout(i, couple) < much) {
                bits |= 1 << i;
            }
        }
        return bits;
    }

    /** By how many POINTS THE BEST falls if this TIE alone is taken from it. */
    private int fewerWithout(int i, int couple) {
        int set = search.familyOf(couple);
        int with = household.worth(couple, set, usage);
        return with - household.worth(couple, set & ~(1 << i), usage) + books.alone;
    }

    public int check() {
        int size = books.fonts.size;
        if (tape.size < size) {
            return -2;
        }
        search.settle(usage);
        int wrong = NONE;
        for (int i = size - 1; i >= 0; i--) {
            if (tape.at(i) != search.coupleOf(i)) {
                wrong = i;
            }
        }
        tape.clear();
        return wrong;
    }

    public int look(int i, int what) {
        if (!books.fonts.has(i)) {
            return NONE;
        }
        switch (what) {
            case 0:
                return books.fonts.name[i];
            case 1:
                return books.fonts.year[i];
            case 2:
                return books.fonts.father[i];
            case 3:
                return books.fonts.mother[i];
            case 4:
                return books.fonts.sponsor[i];
            case 5:
                return books.fonts.gone[i];
            default:
                return NONE;
        }
    }

    public int count(int what) {
        if (what >= 10 && what < 10 + told.length) {
            return usage.clausesOf(what - 10);
        }
        switch (what) {
            case 0:
                return books.names.size;
            case 1:
                return books.couples.size;
            case 2:
                return books.fonts.size;
            case 3:
                return tape.size;
            case 4:
                return usage.ahead;
            case 5:
                return usage.since;
            case 6:
                return usage.change;
            default:
                return NONE;
        }
    }

    /** The NAMES. */
    private static final class Names {
        final int[] sex = new int[MOST_NAMES];
        final int[] says = new int[MOST_NAMES];
        int size;

        boolean has(int name, int ofSex) {
            return name >= 0 && name < size && sex[name] == ofSex;
        }

        int add(int itsSex, int itSays) {
            if (itsSex != MEN && itsSex != WOMEN || itSays < 1 || itSays > 100 || size >= MOST_NAMES) {
                return NONE;
            }
            sex[size] = itsSex;
            says[size] = itSays;
            size++;
            return size - 1;
        }
    }

    /** The COUPLES, each with the NAMES of its four parents. */
    private static final class Couples {
        final int[] husband = new int[MOST_COUPLES];
        final int[] wife = new int[MOST_COUPLES];
        final int[] wed = new int[MOST_COUPLES];
        final int[] last = new int[MOST_COUPLES];
        private final int[] parents = new int[MOST_COUPLES * PARENTS];
        int size;

        boolean has(int couple) {
            return couple >= 0 && couple < size;
        }

        int add(int hisName, int herName, int wedIn, int lastIn) {
            if (wedIn < 0 || lastIn < wedIn || lastIn > LAST_YEAR || size >= MOST_COUPLES) {
                return NONE;
            }
            husband[size] = hisName;
            wife[size] = herName;
            wed[size] = wedIn;
            last[size] = lastIn;
            for (int w = 0; w < PARENTS; w++) {
                parents[size * PARENTS + w] = NONE;
            }
            size++;
            return size - 1;
        }

        void tellParent(int couple, int w, int name) {
            if (has(couple) && w >= 0 && w < PARENTS) {
                parents[couple * PARENTS + w] = name;
            }
        }

        int parentOf(int couple, int w) {
            return has(couple) && w >= 0 && w < PARENTS ? parents[couple * PARENTS + w] : NONE;
        }
    }

    /** The CHRISTENINGS, with the order in which children come kept beside their numbers. */
    private static final class Fonts {
        final int[] name = new int[MOST_CHRISTENINGS];
        final int[] year = new int[MOST_CHRISTENINGS];
        final int[] father = new int[MOST_CHRISTENINGS];
        final int[] mother = new int[MOST_CHRISTENINGS];
        final int[] sponsor = new int[MOST_CHRISTENINGS];
        final int[] gone = new int[MOST_CHRISTENINGS];
        final int[] order = new int[MOST_CHRISTENINGS];
        int size;

        boolean has(int i) {
            return i >= 0 && i < size;
        }

        int add(int itsName, int itsYear, int itsFather, int itsMother, int itsSponsor) {
            if (itsYear < 0 || itsYear > LAST_YEAR || size >= MOST_CHRISTENINGS) {
                return NONE;
            }
            name[size] = itsName;
            year[size] = itsYear;
            father[size] = itsFather;
            mother[size] = itsMother;
            sponsor[size] = itsSponsor;
            gone[size] = NONE;
            putInOrder(size);
            size++;
            return size - 1;
        }

        /** The newest has the highest number, so it goes behind all of its own YEAR. */
        private void putInOrder(int newest) {
            int place = newest;
            while (place > 0 && year[order[place - 1]] > year[newest]) {
                order[place] = order[place - 1];
                place--;
            }
            order[place] = newest;
        }

        boolean goneBy(int i, int inYear) {
            return gone[i] != NONE && gone[i] <= inYear;
        }

        /** Whether a YEAR of CHANGE parts the children otherwise than the YEAR ahead of it does. */
        boolean changesAt(int inYear) {
            for (int i = 0; i < size; i++) {
                if (year[i] == inYear - 1) {
                    return true;
                }
            }
            return false;
        }
    }

    /** All that is told of people, and how it weighs. */
    private static final class Books {
        final Names names = new Names();
        final Couples couples = new Couples();
        final Fonts fonts = new Fonts();
        int loss = 10;
        int alone = 20;

        boolean knows(int couple, int set) {
            return couples.has(couple) && set >= 0 && set < 1 << fonts.size;
        }

        boolean canTie(int i, int couple) {
            if (fonts.father[i] != couples.husband[couple]) {
                return false;
            }
            if (fonts.mother[i] != NONE && fonts.mother[i] != couples.wife[couple]) {
                return false;
            }
            return fonts.year[i] >= couples.wed[couple] && fonts.year[i] <= couples.last[couple];
        }

        int tiesOf(int couple) {
            int bits = 0;
            for (int i = 0; i < fonts.size; i++) {
                if (canTie(i, couple)) {
                    bits |= 1 << i;
                }
            }
            return bits;
        }
    }

    /** The bytes that wait to be read. */
    private static final class Tape {
        private static final int MOST = 200;
        private static final int FED_AT_ONCE = 20;
        private final int[] bytes = new int[MOST];
        int size;

        boolean hasRoom() {
            return size + FED_AT_ONCE <= MOST;
        }

        void append(int word) {
            for (int shift = 24; shift >= 0 && size < MOST; shift -= 8) {
                bytes[size] = word >> shift & 255;
                size++;
            }
        }

        int at(int place) {
            return place >= 0 && place < size ? bytes[place] : NONE;
        }

        void clear() {
            size = 0;
        }
    }

    /**
     * A CUSTOM as steps for a stack, so that a TEXT is read once and asked often.
     * A step is the sign that it comes from; NUMBER and FACT put a value on the stack.
     */
    private static final class Custom {
        private static final int NUMBER = '0';
        private static final int FACT = 'n';
        // Five [ hold two values each; what is around them holds four.
        private static final int DEEPEST = 16;

        private final int[] letters = new int[MOST_CLAUSES];
        private final int[] ends = new int[MOST_CLAUSES];
        private final int[] signs = new int[MOST_TEXT];
        private final int[] values = new int[MOST_TEXT];
        private final int[] stack = new int[DEEPEST];
        private int steps;
        int clauses;

        void clear() {
            steps = 0;
            clauses = 0;
        }

        /** The step's place, for a jump that learns later where it leads. */
        int addStep(int sign, int value) {
            if (steps >= signs.length) {
                return NONE;
            }
            signs[steps] = sign;
            values[steps] = value;
            steps++;
            return steps - 1;
        }

        void leadHere(int jump) {
            if (jump >= 0 && jump < steps) {
                values[jump] = steps;
            }
        }

        void endClause(int letter) {
            if (clauses < letters.length) {
                letters[clauses] = letter;
                ends[clauses] = steps;
                clauses++;
            }
        }

        /** The letter of the first CLAUSE that holds, of those whose one is there (as bits); or NONE. */
        int firstFor(int[] facts, int there) {
            int from = 0;
            for (int k = 0; k < clauses; k++) {
                if ((there >> letters[k] & 1) == 1 && holds(from, ends[k], facts)) {
                    return letters[k];
                }
                from = ends[k];
            }
            return NONE;
        }

        private boolean holds(int from, int to, int[] facts) {
            int top = 0;
            for (int step = from; step < to; step++) {
                int sign = signs[step];
                if (sign == NUMBER || sign == FACT) {
                    if (top >= stack.length) {
                        return false;
                    }
                    stack[top] = sign == NUMBER ? values[step] : factAt(facts, values[step]);
                    top++;
                } else if (top < 1) {
                    return false;
                } else if (sign == '!') {
                    stack[top - 1] = 1 - stack[top - 1];
                } else if (sign == '&' || sign == '|') {
                    boolean settled = (stack[top - 1] == 0) == (sign == '&');
                    if (settled) {
                        step = Math.max(step, values[step] - 1);
                    } else {
                        top--;
                    }
                } else if (top < 2 || stack[top - 1] == 0 && (sign == '/' || sign == '%')) {
                    return false;
                } else {
                    top--;
                    stack[top - 1] = reckon(sign, stack[top - 1], stack[top]);
                }
            }
            return top == 1 && stack[0] != 0;
        }

        private static int factAt(int[] facts, int place) {
            return place >= 0 && place < facts.length ? facts[place] : 0;
        }

        private static int reckon(int sign, int left, int right) {
            switch (sign) {
                case '+':
                    return left + right;
                case '-':
                    return left - right;
                case '*':
                    return left * right;
                case '/':
                    return right == 0 ? 0 : left / right;
                case '%':
                    return right == 0 ? 0 : left % right;
                case '<':
                    return left < right ? 1 : 0;
                case '>':
                    return left > right ? 1 : 0;
                default:
                    return left == right ? 1 : 0;
            }
        }
    }

    /** Reads a TEXT into a draft, which takes a CUSTOM's place only when it has no FAULT. */
    private static final class Reader {
        private static final int STRANGE = 1;
        private static final int SIXTH_DIGIT = 2;
        private static final int CLAUSE_TOO_MANY = 4;
        private static final int TOO_DEEP = 5;
        private static final int MOST_OPEN = 6;
        private static final int MOST_DIGITS = 5;

        // What chain() reads: operands of the next kind with signs of this one between them.
        private static final int CONDITION = 0;
        private static final int PART = 1;
        private static final int SUM = 2;
        private static final int TERM = 3;

        private final char[] text = new char[MOST_TEXT];
        private Custom draft = new Custom();
        private int length;
        private int at;
        private int fault;

        /** The FAULT as a call answers it, or 0. */
        int read(Tape tape, int n) {
            length = Math.min(n, text.length);
            for (int i = 0; i < length; i++) {
                text[i] = (char) (tape.at(i) & 255);
            }
            at = 0;
            fault = 0;
            draft.clear();
            boolean more = clause();
            for (int k = 1; more && at < length && k <= MOST_CLAUSES; k++) {
                more = take(';') && clause();
            }
            return fault;
        }

        /** Hands out the draft and keeps the CUSTOM before it as the next draft's room. */
        Custom exchange(Custom before) {
            Custom ready = draft;
            draft = before;
            return ready;
        }

        /** The end reads as byte 0, which can stand nowhere either. */
        private char peek() {
            return at >= 0 && at < length ? text[at] : 0;
        }

        private boolean refuse(int kind) {
            fault = -1000 * kind - at;
            return false;
        }

        private boolean take(char sign) {
            if (peek() != sign) {
                return refuse(STRANGE);
            }
            at++;
            return true;
        }

        private boolean clause() {
            int letter = LETTERS.indexOf(peek());
            if (letter < 0) {
                return refuse(STRANGE);
            }
            if (draft.clauses >= MOST_CLAUSES) {
                return refuse(CLAUSE_TOO_MANY);
            }
            at++;
            if (!take('(') || !chain(CONDITION, 1) || !take(')')) {
                return false;
            }
            draft.endClause(letter);
            return true;
        }

        private static String signsOf(int kind) {
            switch (kind) {
                case CONDITION:
                    return "|";
                case PART:
                    return "&";
                case SUM:
                    return "+-";
                default:
                    return "*/%";
            }
        }

        private boolean chain(int kind, int open) {
            if (!operand(kind, open)) {
                return false;
            }
            String between = signsOf(kind);
            for (int turn = 0; turn < length && between.indexOf(peek()) >= 0; turn++) {
                char sign = peek();
                at++;
                // A jump leads to just behind the next operand: there it meets the next jump, or the end.
                boolean jumps = kind == CONDITION || kind == PART;
                int jump = jumps ? draft.addStep(sign, 0) : NONE;
                if (!operand(kind, open)) {
                    return false;
                }
                if (jumps) {
                    draft.leadHere(jump);
                } else {
                    draft.addStep(sign, 0);
                }
            }
            return true;
        }

        private boolean operand(int kind, int open) {
            switch (kind) {
                case CONDITION:
                    return chain(PART, open);
                case PART:
                    return piece(open);
                case SUM:
                    return chain(TERM, open);
                default:
                    return factor(open);
            }
        }

        private boolean piece(int open) {
            char first = peek();
            if (first != '!' && first != '(') {
                return comparison(open);
            }
            if (open >= MOST_OPEN) {
                return refuse(TOO_DEEP);
            }
            at++;
            if (first == '(') {
                return chain(CONDITION, open + 1) && take(')');
            }
            if (!piece(open + 1)) {
                return false;
            }
            draft.addStep('!', 0);
            return true;
        }

        private boolean comparison(int open) {
            if (!chain(SUM, open)) {
                return false;
            }
            char sign = peek();
            if (sign != '<' && sign != '>' && sign != '=') {
                return refuse(STRANGE);
            }
            at++;
            if (!chain(SUM, open)) {
                return false;
            }
            draft.addStep(sign, 0);
            return true;
        }

        private boolean factor(int open) {
            char first = peek();
            if (isDigit(first)) {
                return number();
            }
            if (first == '[') {
                if (open >= MOST_OPEN) {
                    return refuse(TOO_DEEP);
                }
                at++;
                return chain(SUM, open + 1) && take(']');
            }
            int fact = FACTS.indexOf(first);
            if (fact < 0) {
                return refuse(STRANGE);
            }
            at++;
            draft.addStep(Custom.FACT, fact);
            return true;
        }

        private static boolean isDigit(char sign) {
            return sign >= '0' && sign <= '9';
        }

        private boolean number() {
            int value = 0;
            for (int digits = 0; digits < MOST_DIGITS && isDigit(peek()); digits++) {
                value = value * 10 + peek() - '0';
                at++;
            }
            if (isDigit(peek())) {
                return refuse(SIXTH_DIGIT);
            }
            draft.addStep(Custom.NUMBER, value);
            return true;
        }
    }

    /** Which CUSTOM goes with which YEAR. */
    private static final class Usage {
        private final Custom[] told;
        int ahead = NONE;
        int since = NONE;
        int change = NONE;

        Usage(Custom[] told) {
            this.told = told;
        }

        void tell(int a, int b, int year) {
            ahead = a;
            since = b;
            change = year;
        }

        int clausesOf(int k) {
            return k >= 0 && k < told.length && told[k] != null ? told[k].clauses : 0;
        }

        boolean isTold(int k) {
            return clausesOf(k) > 0;
        }

        boolean anyTold() {
            for (int k = 0; k < told.length; k++) {
                if (isTold(k)) {
                    return true;
                }
            }
            return false;
        }

        /** The CUSTOM of a YEAR, or null. */
        Custom inYear(int year) {
            int k = year < change ? ahead : since;
            return isTold(k) ? told[k] : null;
        }
    }

    /** One FAMILY at a time: gathered, then asked whose NAMES its children should have. */
    private static final class Family {
        private final Books books;
        private final int[] child = new int[MOST_CHRISTENINGS];
        private final int[] letter = new int[MOST_CHRISTENINGS];
        private final int[] dead = new int[MOST_CHRISTENINGS];
        private final int[] held = new int[PARENTS];
        private final int[] facts = new int[FACTS.length()];
        private final int[] foreseen = new int[MOST_CHRISTENINGS * (MOST_MISSING + 1)];
        private int couple;
        private int size;

        Family(Books books) {
            this.books = books;
        }

        /** Whether it can be; if so its children stand here in the order in which they come. */
        boolean gather(int ofCouple, int set) {
            couple = ofCouple;
            size = 0;
            for (int place = 0; place < books.fonts.size; place++) {
                int i = books.fonts.order[place];
                if ((set >> i & 1) == 1) {
                    if (!books.canTie(i, couple) || !fitsElders(i)) {
                        return false;
                    }
                    child[size] = i;
                    size++;
                }
            }
            return true;
        }

        private boolean fitsElders(int i) {
            Fonts fonts = books.fonts;
            int year = fonts.year[i];
            int twins = 0;
            for (int k = 0; k < size; k++) {
                int elder = child[k];
                if (fonts.year[elder] == year - 1) {
                    return false;
                }
                if (fonts.name[elder] == fonts.name[i] && !fonts.goneBy(elder, year)) {
                    return false;
                }
                if (fonts.year[elder] == year) {
                    twins++;
                }
            }
            return twins < 2;
        }

        /** POINTS of a FAMILY, or NO_POINTS; afterwards letterAt, due and namesFor speak of it. */
        int worth(int ofCouple, int set, Usage usage) {
            if (!gather(ofCouple, set)) {
                return NO_POINTS;
            }
            ask(usage);
            int sum = 0;
            for (int j = 0; j < size; j++) {
                sum += gain(j, due(j));
            }
            return sum;
        }

        private void ask(Usage usage) {
            for (int j = 0; j < size; j++) {
                int there = observe(j);
                Custom custom = usage.inYear(books.fonts.year[child[j]]);
                letter[j] = custom == null ? NONE : custom.firstFor(facts, there);
            }
            for (int w = 0; w < PARENTS; w++) {
                int name = books.couples.parentOf(couple, w);
                held[w] = name == NONE ? lowest(namesFor(w)) : name;
            }
        }

        private static int lowest(int names) {
            for (int name = 0; name < MOST_NAMES; name++) {
                if ((names >> name & 1) == 1) {
                    return name;
                }
            }
            return NONE;
        }

        /** Fills the facts of a child; answers, as bits by LETTERS, whose ones there are. */
        private int observe(int j) {
            Fonts fonts = books.fonts;
            int i = child[j];
            int year = fonts.year[i];
            int sex = sexAt(j);
            int number = 1;
            int lost = 0;
            int between = 0;
            dead[j] = NONE;
            for (int k = j - 1; k >= 0; k--) {
                int name = fonts.name[child[k]];
                if (sexAt(k) == sex) {
                    number++;
                    if (fonts.goneBy(child[k], year)) {
                        lost++;
                        if (dead[j] == NONE && (between >> name & 1) == 0) {
                            dead[j] = name;
                        }
                    }
                }
                between |= 1 << name;
            }
            facts[0] = number;
            facts[1] = j;
            facts[2] = sex;
            facts[3] = year;
            facts[4] = year - books.couples.wed[couple];
            facts[5] = isTwin(j) ? 1 : 0;
            facts[6] = fonts.name[i];
            facts[7] = lost;
            facts[8] = size;
            int there = sex == MEN ? FOR_SONS : FOR_DAUGHTERS;
            if (fonts.sponsor[i] != NONE) {
                there |= 1 << SPONSOR;
            }
            return dead[j] == NONE ? there : there | 1 << DEAD;
        }

        private int sexAt(int j) {
            return books.names.sex[books.fonts.name[child[j]]];
        }

        private boolean isTwin(int j) {
            int[] year = books.fonts.year;
            return j > 0 && year[child[j - 1]] == year[child[j]]
                || j + 1 < size && year[child[j + 1]] == year[child[j]];
        }

        int placeOf(int i) {
            for (int j = 0; j < size; j++) {
                if (child[j] == i) {
                    return j;
                }
            }
            return NONE;
        }

        int letterAt(int j) {
            return j >= 0 && j < size ? letter[j] : NONE;
        }

        /** The NAME that a child should have, or FREE. */
        int due(int j) {
            int whose = letterAt(j);
            if (whose < 0) {
                return FREE;
            }
            if (whose < PARENTS) {
                return held[whose];
            }
            switch (whose) {
                case FATHER:
                    return books.couples.husband[couple];
                case MOTHER:
                    return books.couples.wife[couple];
                case SPONSOR:
                    return books.fonts.sponsor[child[j]];
                default:
                    return dead[j];
            }
        }

        private int gain(int j, int nameDue) {
            if (nameDue == FREE) {
                return 0;
            }
            int name = books.fonts.name[child[j]];
            return name == nameDue ? books.names.says[name] : -books.loss;
        }

        /** The NAMES by which the children named for a parent have most POINTS, as bits. */
        int namesFor(int w) {
            boolean any = false;
            for (int j = 0; j < size; j++) {
                any = any || letter[j] == w;
            }
            int bits = 0;
            int most = NO_POINTS;
            for (int name = 0; any && name < books.names.size; name++) {
                if (books.names.sex[name] == (w & 1)) {
                    int sum = gainOfAll(w, name);
                    bits = sum > most ? 1 << name : sum == most ? bits | 1 << name : bits;
                    most = Math.max(most, sum);
                }
            }
            return bits;
        }

        private int gainOfAll(int w, int name) {
            int sum = 0;
            for (int j = 0; j < size; j++) {
                if (letter[j] == w) {
                    sum += gain(j, name);
                }
            }
            return sum;
        }

        /** MUST HAVE BEEN, for the FAMILY that was gathered; -2 if as many as may be don't do. */
        int missing(int sex, Usage usage) {
            foresee(usage);
            int least = MOST_MISSING + 1;
            for (int his = 0; his < books.names.size; his++) {
                for (int hers = 0; hers < books.names.size; hers++) {
                    if (mayHold(sex, his) && mayHold(sex + 2, hers)) {
                        held[sex] = his;
                        held[sex + 2] = hers;
                        least = Math.min(least, fewest(sex));
                    }
                }
            }
            return least > MOST_MISSING ? -2 : least;
        }

        private boolean mayHold(int w, int name) {
            int parent = books.couples.parentOf(couple, w);
            return parent == NONE ? books.names.has(name, w & 1) : parent == name;
        }

        /** The letter of each child for each number of unwritten ones ahead of it. */
        private void foresee(Usage usage) {
            for (int j = 0; j < size; j++) {
                int there = observe(j);
                Custom custom = usage.inYear(books.fonts.year[child[j]]);
                for (int extra = 0; extra <= MOST_MISSING; extra++) {
                    foreseen[j * (MOST_MISSING + 1) + extra] = custom == null ? NONE : custom.firstFor(facts, there);
                    facts[0]++;
                }
            }
        }

        /** As few as can be ahead of each child leave most freedom to those behind it. */
        private int fewest(int sex) {
            int extra = 0;
            for (int j = 0; j < size; j++) {
                while (sexAt(j) == sex && extra <= MOST_MISSING && !suits(j, extra)) {
                    extra++;
                }
            }
            return extra;
        }

        private boolean suits(int j, int extra) {
            letter[j] = foreseen[j * (MOST_MISSING + 1) + extra];
            int name = due(j);
            return name == FREE || name == books.fonts.name[child[j]];
        }
    }

    /** A row of COUPLES told by the tape, as a set of CHRISTENINGS for each of them and for nobody. */
    private static final class Row {
        private final Books books;
        private final Family family;
        private final int[] sets = new int[NOBODY + 1];

        Row(Books books, Family family) {
            this.books = books;
            this.family = family;
        }

        /** Takes the row and empties the tape: 0 for a WAY, else what judge answers. */
        int take(Tape tape) {
            for (int c = 0; c < sets.length; c++) {
                sets[c] = 0;
            }
            int stray = NONE;
            for (int i = books.fonts.size - 1; i >= 0; i--) {
                int couple = tape.at(i);
                boolean can = couple == NOBODY || books.couples.has(couple) && books.canTie(i, couple);
                if (can) {
                    sets[couple] |= 1 << i;
                } else {
                    stray = i;
                }
            }
            tape.clear();
            return stray == NONE ? firstBroken() : NO_TIE - stray;
        }

        private int firstBroken() {
            for (int c = 0; c < books.couples.size; c++) {
                if (!family.gather(c, sets[c])) {
                    return NO_FAMILY - c;
                }
            }
            return 0;
        }

        int worthBy(Usage usage) {
            int sum = -books.alone * Integer.bitCount(sets[NOBODY]);
            for (int c = 0; c < books.couples.size; c++) {
                sum += family.worth(c, sets[c], usage);
            }
            return sum;
        }

        /** Tries all pairs and YEARS; the trial is left at what is LEARNT, with its POINTS answered. */
        int learn(Usage trial, int from, int to) {
            int most = NO_POINTS;
            int a = NONE;
            int b = NONE;
            int change = NONE;
            for (int pair = 0; pair < MOST_CUSTOMS * MOST_CUSTOMS; pair++) {
                int ahead = pair / MOST_CUSTOMS;
                int since = pair % MOST_CUSTOMS;
                boolean both = trial.isTold(ahead) && trial.isTold(since);
                for (int year = from; both && year <= to; year++) {
                    if (year == from || books.fonts.changesAt(year)) {
                        trial.tell(ahead, since, year);
                        int sum = worthBy(trial);
                        if (sum > most) {
                            most = sum;
                            a = ahead;
                            b = since;
                            change = year;
                        }
                    }
                }
            }
            trial.tell(a, b, change);
            return most;
        }
    }

    /**
     * All WAYS at once: for each set of CHRISTENINGS what is to be known of the WAYS in which just these
     * have one of the COUPLES taken so far. A row has three bits for each CHRISTENING, the first one's on
     * top, so that the least row is the least number.
     */
    private static final class Ways {
        private static final int SETS = 1 << MOST_CHRISTENINGS;
        private static final int LOW_BITS = 0x09249249;
        private static final int VARIES = 7;

        private final Books books;
        private final Family family;
        private final int[] worth = new int[SETS];
        private final int[] spread = new int[SETS];
        private final int[] most = new int[SETS];
        private final int[] next = new int[SETS];
        private final int[] least = new int[SETS];
        private final int[] common = new int[SETS];
        private final long[] bests = new long[SETS];
        private final long[] all = new long[SETS];
        private boolean settled;

        Ways(Books books, Family family) {
            this.books = books;
            this.family = family;
            for (int i = 0; i < MOST_CHRISTENINGS; i++) {
                for (int set = 0; set < 1 << i; set++) {
                    spread[1 << i | set] = 1 << shiftOf(i) | spread[set];
                }
            }
        }

        private static int shiftOf(int i) {
            return 3 * (MOST_CHRISTENINGS - 1 - i);
        }

        void forget() {
            settled = false;
        }

        private int whole() {
            return (1 << books.fonts.size) - 1;
        }

        void settle(Usage usage) {
            if (settled) {
                return;
            }
            int whole = whole();
            startEmpty(whole);
            for (int c = 0; c < books.couples.size; c++) {
                int ties = books.tiesOf(c);
                // From a set to the next smaller one within the TIES.
                for (int set = ties; set >= 0; set = set == 0 ? NONE : set - 1 & ties) {
                    worth[set] = family.worth(c, set, usage);
                }
                // From the top down: the smaller sets still tell of the COUPLES before.
                for (int set = whole; set >= 0; set--) {
                    widen(set, c, ties);
                }
            }
            for (int set = 0; set <= whole; set++) {
                worth[set] = -books.alone * Integer.bitCount(set);
            }
            widen(whole, NOBODY, whole);
            settled = true;
        }

        /** With no COUPLE yet there is one WAY for no CHRISTENING, and none for others. */
        private void startEmpty(int whole) {
            for (int set = 0; set <= whole; set++) {
                most[set] = NO_POINTS;
                next[set] = NO_POINTS;
                least[set] = 0;
                common[set] = 0;
                bests[set] = 0;
                all[set] = 0;
            }
            most[0] = 0;
            bests[0] = 1;
            all[0] = 1;
        }

        /** Joins a COUPLE's FAMILIES to the WAYS before it, for one set of CHRISTENINGS. */
        private void widen(int set, int couple, int ties) {
            int newMost = NO_POINTS;
            int newNext = NO_POINTS;
            int newLeast = 0;
            int newCommon = 0;
            long newBests = 0;
            long newAll = 0;
            int within = set & ties;
            for (int part = within; part >= 0; part = part == 0 ? NONE : part - 1 & within) {
                int rest = set ^ part;
                if (worth[part] == NO_POINTS || all[rest] == 0) {
                    continue;
                }
                int points = most[rest] + worth[part];
                int fewer = next[rest] == NO_POINTS ? NO_POINTS : next[rest] + worth[part];
                int added = couple * spread[part];
                newAll += all[rest];
                if (points > newMost) {
                    newNext = Math.max(newMost, fewer);
                    newMost = points;
                    newLeast = least[rest] | added;
                    newCommon = common[rest] | added;
                    newBests = bests[rest];
                } else if (points == newMost) {
                    newNext = Math.max(newNext, fewer);
                    newLeast = Math.min(newLeast, least[rest] | added);
                    newCommon = shared(newCommon, common[rest] | added);
                    newBests += bests[rest];
                } else {
                    newNext = Math.max(newNext, points);
                }
            }
            most[set] = newMost;
            next[set] = newNext;
            least[set] = newLeast;
            common[set] = newCommon;
            bests[set] = newBests;
            all[set] = newAll;
        }

        /** Two rows as one: VARIES where they differ. */
        private static int shared(int one, int other) {
            int differs = one ^ other;
            int low = (differs | differs >> 1 | differs >> 2) & LOW_BITS;
            return one | low * VARIES;
        }

        int coupleOf(int i) {
            return least[whole()] >> shiftOf(i) & 7;
        }

        /** The COUPLE (or NOBODY) of a CHRISTENING in all WAYS of most POINTS, or VARIES. */
        int alwaysOf(int i) {
            return common[whole()] >> shiftOf(i) & 7;
        }

        int familyOf(int couple) {
            int set = 0;
            for (int i = 0; i < books.fonts.size; i++) {
                if (coupleOf(i) == couple) {
                    set |= 1 << i;
                }
            }
            return set;
        }

        int mostPoints() {
            return most[whole()];
        }

        long howManyBest() {
            return bests[whole()];
        }

        long howMany() {
            return all[whole()];
        }

        int gap() {
            int second = next[whole()];
            return second == NO_POINTS ? NONE : mostPoints() - second;
        }
    }
}
