import java.util.function.IntUnaryOperator;

/** Promises 1 to 26: each sentence on a call that names a boundary case. */
public final class CallEdgesTest extends Parish {
    private static final Due due = new Due();
    private static final int LEAST = Integer.MIN_VALUE;
    private static final int GREATEST = Integer.MAX_VALUE;
    private static final int[] NO_PAIR = {-1, 2, 3, 5, 6, 7, 31, 32, 33, 256, LEAST, GREATEST};

    public static void main(String[] args) {
        calls512();
        memoryIsItsOwn();
        noneIsTheConstant();
        promise1();
        promise2And3AndTheirNumbers();
        promise4();
        promise5And6();
        promise7();
        promise8();
        promise9FirstBytes();
        promise9InPlace();
        promise9NotSoMany();
        promise10();
        promise11And12();
        promise13To15();
        promise16();
        promise17();
        promise18();
        promise19();
        promise20();
        promise21();
        promise22();
        promise23();
        promise24();
        promise25();
        promise26();
        due.end("CallEdgesTest");
    }

    /** One argument goes through what there is not, from a list of numbers; each must get one answer. */
    private static void all(String call, int want, int[] wrong, IntUnaryOperator asked) {
        for (int number : wrong) {
            due.is(call + " with " + number, asked.applyAsInt(number), want);
        }
    }

    private static int truth(boolean answer) {
        return answer ? 1 : 0;
    }

    /** Two CHRISTENINGS (Paul 20, Mark 21) and two COUPLES; THE CUSTOM is P. */
    private static FontList two() {
        FontList list = twoCouples();
        child(list, PAUL, 20);
        child(list, MARK, 21);
        due.use(list, "P(n=1)");
        return list;
    }

    private static void calls512() {
        due.sentence("An object is used for at most 512 calls after it has been made");
        FontList list = new FontList();
        int calls = 0;
        for (int k = 0; k < 8; k++) {
            list.name(k % 2, 5);
            calls++;
        }
        list.couple(0, 1, 0, 299);
        list.christening(2, 20, 0, 1, -1);
        calls += 2;
        for (int k = 0; calls < 508; k++) {
            list.weighs(k % 101, k % 1001);
            list.ways(0);
            calls += 2;
        }
        list.weighs(10, 33);
        due.is("the 510th call", list.best(0), 0);
        due.is("the 511th call", list.ways(2), 2);
        due.is("the 512th call", list.ways(3), 33);
    }

    private static void memoryIsItsOwn() {
        due.sentence("All memory is the clerk's own.");
        FontList one = two();
        FontList other = new FontList();
        due.is("the other has no NAME", other.count(0), 0);
        due.is("and no tape", one.feed(0, 0, 0, 0, 0) - other.count(3), 20);
        other.name(0, 100);
        other.name(1, 100);
        other.couple(0, 1, 0, 0);
        other.christening(0, 0, 0, 1, -1);
        other.weighs(0, 1000);
        due.use(other, "S(n=1);F(n=1)");
        due.is("the other's POINTS", other.ways(0), 100);
        due.is("the one's POINTS", one.ways(0), -20);
        due.is("the one's CUSTOM", one.by(0, 1, 0), 'P');
        due.is("the other's CUSTOM", other.by(0, 1, 0), 'F');
        due.is("the one's COUPLES", one.count(1), 2);
        due.is("the one's tape", one.count(3), 20);
        due.is("the other's tape", other.count(3), 0);
    }

    private static void noneIsTheConstant() {
        due.sentence("`NONE = -1`: There is none.");
        due.is("NONE", FontList.NONE, -1);
        FontList list = two();
        due.yes("as what is told", list.parent(0, 0, FontList.NONE) && list.died(0, FontList.NONE));
        due.is("as what is asked", list.look(0, 4), FontList.NONE);
    }

    private static void promise1() {
        due.sentence("No NAMES, COUPLES, CHRISTENINGS, CUSTOMS; LOSS 10, ALONE 20.");
        FontList list = new FontList();
        due.is("a COUPLE wants NAMES", list.couple(0, 0, 0, 0), -1);
        due.is("a CHRISTENING wants NAMES", list.christening(0, 0, 0, -1, -1), -1);
        due.is("a FAMILY wants a COUPLE", list.family(0, 0), -1);
        due.is("POINTS want a COUPLE", list.points(0, 0), -1000000);
        due.is("no CHRISTENING", list.best(0), -1);
        due.is("an empty tape", list.custom(0, 1), -1);
        due.is("no CUSTOM is told", list.learnt(0, 300, 0), -1000000);
        for (int what = 0; what < 4; what++) {
            due.is("count(" + what + ")", list.count(what), 0);
            due.is("count(" + (10 + what) + ")", list.count(10 + what), 0);
        }
        FontList first = people();
        child(first, PAUL, 20);
        child(first, MARK, 91);
        due.is("ALONE", first.ways(0), -20);
        due.use(first, "P(n=1)");
        due.is("LOSS", first.points(0, 1), -10);
    }

    private static void promise2And3AndTheirNumbers() {
        due.sentence("A NAME: its number; NONE: no such ones, 16 are there.");
        FontList list = new FontList();
        list.name(0, 5);
        due.is("refused", list.name(0, 101), -1);
        due.is("the number behind the last that was taken", list.name(1, 5), 1);
        for (int k = 2; k < 16; k++) {
            list.name(0, 5);
        }
        due.is("16 are there", list.name(0, 5), -1);
        due.is("also no such ones", list.name(5, 5), -1);
        due.sentence("A COUPLE: its number; NONE: no such ones (last below wed, too), six are there.");
        due.is("a COUPLE", list.couple(0, 1, 9, 9), 0);
        due.is("last below wed", list.couple(0, 1, 9, 8), -1);
        due.is("the number behind the last that was taken", list.couple(15, 1, 9, 9), 1);
        for (int c = 2; c < 6; c++) {
            list.couple(0, 1, 9, 9);
        }
        due.is("six are there", list.couple(0, 1, 9, 9), -1);
        due.is("six", list.count(1), 6);
    }

    private static void promise4() {
        due.sentence("Parent w (0 to 3) of a COUPLE has a NAME (NONE: not told): true; false: no such ones, not of that SEX.");
        FontList list = twoCouples();
        all("COUPLE", 0, NO_PAIR, c -> truth(list.parent(c, 0, JOHN)));
        all("COUPLE, not told", 0, NO_PAIR, c -> truth(list.parent(c, 0, -1)));
        all("parent", 0, new int[] {-1, 4, 5, 32, LEAST, GREATEST}, w -> truth(list.parent(0, w, JOHN)));
        all("father", 0, new int[] {-2, MARY, RUTH, 7, 16, LEAST, GREATEST}, n -> truth(list.parent(0, 2, n)));
        all("mother", 0, new int[] {-2, JOHN, LUKE, 7, 16, LEAST, GREATEST}, n -> truth(list.parent(0, 3, n)));
        for (int w = 0; w < 4; w++) {
            due.is("none is told by that", list.grand(0, w) + list.grand(1, w), 0);
            due.yes("the last NAME of its SEX", list.parent(1, w, w % 2 == 0 ? LUKE : RUTH));
            due.yes("NONE", list.parent(1, w, -1));
            due.yes("NONE once more", list.parent(1, w, -1));
        }
    }

    private static void promise5And6() {
        due.sentence("A CHRISTENING (mother, sponsor NONE: not told): its number; NONE: no such ones, 10 are there.");
        FontList list = people();
        due.is("neither told", list.christening(PAUL, 20, JOHN, -1, -1), 0);
        due.is("refused", list.christening(PAUL, 300, JOHN, -1, -1), -1);
        due.is("both told", list.christening(PAUL, 20, JOHN, RUTH, LUKE), 1);
        for (int i = 2; i < 10; i++) {
            due.is("the next", child(list, PAUL, i), i);
        }
        due.is("10 are there", child(list, PAUL, 20), -1);
        due.sentence("CHRISTENING i DIED in a YEAR (NONE: not told): true; false: no such ones.");
        int[] none = {-1, 10, 11, 31, 32, LEAST, GREATEST};
        all("CHRISTENING", 0, none, i -> truth(list.died(i, 299)));
        all("CHRISTENING, not told", 0, none, i -> truth(list.died(i, -1)));
        all("YEAR", 0, new int[] {-2, 19, 300, LEAST, GREATEST}, year -> truth(list.died(0, year)));
        due.is("not told by that", list.look(0, 5), -1);
        due.yes("not told", list.died(0, -1));
        due.yes("the tenth in the last YEAR", list.died(9, 299));
        due.yes("once more in its own", list.died(9, 9));
        due.is("the later call counts", list.look(9, 5), 9);
    }

    private static void promise7() {
        due.sentence("LOSS and ALONE: true; false: no such ones.");
        FontList list = people();
        child(list, PAUL, 20);
        due.use(list, "P(n=1)");
        due.no("LOSS is wrong", list.weighs(101, 500));
        due.no("ALONE is wrong", list.weighs(50, 1001));
        due.no("both are wrong", list.weighs(-1, -1));
        due.is("LOSS as before", list.points(0, 1), -10);
        due.is("ALONE as before", list.ways(3), 10);
        due.yes("both are right", list.weighs(100, 1000));
        due.is("from -100 to -1000", list.ways(3), 900);
    }

    private static void promise8() {
        due.sentence("Twenty bytes come behind the tape, the highest of each int first: how many it has; NONE if that"
            + " would be more than 200.");
        FontList list = new FontList();
        list.name(0, 5);
        for (int i = 0; i < 10; i++) {
            list.christening(0, i, 0, -1, -1);
        }
        int six = 0x06060606;
        for (int place = 0; place < 10; place++) {
            int[] words = {six, six, six, six, six};
            int shift = 24 - 8 * (place % 4);
            words[place / 4] = six & ~(255 << shift) | 255 << shift;
            due.is("twenty", list.feed(words[0], words[1], words[2], words[3], words[4]), 20);
            due.is("a byte 255 at " + place, list.judge(), -2000000 - place);
        }
        for (int k = 1; k <= 10; k++) {
            due.is("so many", list.feed(six, six, six, k, -1), 20 * k);
        }
        due.is("220", list.feed(-1, -1, -1, -1, -1), -1);
        due.is("200", list.count(3), 200);
        due.is("the first bytes stay first", list.judge(), -200);
        due.is("from the start again", list.feed(0, 0, 0, 0, 0), 20);
    }

    private static void promise9FirstBytes() {
        due.sentence("CUSTOM k by the first n bytes of the tape (1 to 160; empty then)");
        FontList list = new FontList();
        Due.feed(list, "P(n=1);Q(n=1)");
        due.is("6 of 20", list.custom(0, 6), 1);
        due.is("all 20 are gone", list.count(3), 0);
        Due.feed(list, "P(n=1)&Q(n=1)&S(n=1)");
        due.is("1 of 20", list.custom(0, 1), -1001);
        due.is("all 20 are gone", list.count(3), 0);
        Due.feed(list, "P(n=12345);Q(n=1234)");
        due.is("20 of 20", list.custom(0, 20), 2);
        for (int k = 0; k < 10; k++) {
            Due.feed(list, "P(n=12345);Q(n=1234)");
        }
        due.is("20 of 200", list.custom(0, 20), 2);
        due.is("all 200 are gone", list.count(3), 0);
        Due.feed(list, "P(" + Due.times("1+", 77) + "1=1)" + Due.times("x", 40));
        due.is("160 of 200", list.custom(0, 160), 1);
        due.is("all 200 are gone", list.count(3), 0);
        Due.feed(list, "P(n=1)");
        Due.feed(list, ";Q(n=1)");
        due.is("the blanks between two feeds count", list.custom(0, 27), -1006);
    }

    private static void promise9InPlace() {
        due.sentence("in place of the one before: how many CLAUSES; a FAULT: -1000 times its number, less its place"
            + " (the TEXT before stays)");
        FontList list = people();
        child(list, PAUL, 20);
        list.customs(2, 2, 0);
        due.is("three CLAUSES", Due.custom(list, 2, "P(n=1);Q(n=1);F(n=1)"), 3);
        due.is("P", list.by(0, 1, 0), 'P');
        due.is("one, in its place", Due.custom(list, 2, "M(n=1)"), 1);
        due.is("M", list.by(0, 1, 0), 'M');
        String[] texts = {"x", "F(n=1);F(123456=1)", Due.times("F(n=1);", 12) + "F(n=1)", "F(((((((n=1)))))))"};
        int[] faults = {-1000, -2014, -4084, -5007};
        for (int k = 0; k < 4; k++) {
            due.is("a FAULT", Due.custom(list, 2, texts[k]), faults[k]);
            due.is("the tape is empty", list.count(3), 0);
            due.is("the TEXT before stays", list.by(0, 1, 0), 'M');
            due.is("its CLAUSES, too", list.count(12), 1);
            due.is("so does one that is not told", Due.custom(list, 3, texts[k]), faults[k]);
            due.is("not told", list.count(13), 0);
        }
        due.is("a second TEXT behind the FAULTS", Due.custom(list, 2, "S(n=1);F(n=1)"), 2);
        due.is("F", list.by(0, 1, 0), 'F');
    }

    private static void promise9NotSoMany() {
        due.sentence("NONE: no such ones, it has not so many (the tape stays)");
        FontList list = new FontList();
        due.is("1 of none", list.custom(0, 1), -1);
        Due.feed(list, "P(n=12345);Q(n=1234)");
        int[] wrong = {-1, 4, 5, LEAST, GREATEST};
        all("CUSTOM", -1, wrong, k -> list.custom(k, 20));
        all("bytes", -1, new int[] {0, -1, 21, 160, 161, LEAST, GREATEST}, n -> list.custom(0, n));
        due.is("the tape stays", list.count(3), 20);
        for (int k = 0; k < 4; k++) {
            due.is("none is told", list.count(10 + k), 0);
        }
        due.is("what it has is as it was", list.custom(3, 20), 2);
        for (int k = 0; k < 10; k++) {
            list.feed(-1, -1, -1, -1, -1);
        }
        due.is("161 of 200", list.custom(0, 161), -1);
        due.is("200 of 200", list.custom(0, 200), -1);
        due.is("the tape stays", list.count(3), 200);
    }

    private static void promise10() {
        due.sentence("THE CUSTOM: A ahead of a YEAR (0 to 300), B from it on (those not told: all FREE): true; false: no"
            + " such ones.");
        FontList list = two();
        list.customs(0, 3, 21);
        due.is("A is told", list.by(0, 1, 0), 'P');
        due.is("B is not told", list.by(0, 2, 1), 0);
        due.is("FREE", list.should(0, 2, 1), -2);
        due.is("no POINTS", list.points(0, 2), 0);
        int[] wrong = {-1, 4, 5, LEAST, GREATEST};
        all("A", 0, wrong, a -> truth(list.customs(a, 0, 5)));
        all("B", 0, wrong, b -> truth(list.customs(0, b, 5)));
        all("YEAR", 0, new int[] {-1, 301, LEAST, GREATEST}, year -> truth(list.customs(1, 1, year)));
        due.is("A stays", list.count(4), 0);
        due.is("B stays", list.count(5), 3);
        due.is("the YEAR stays", list.count(6), 21);
        due.yes("0", list.customs(3, 0, 0));
        due.is("B for all", list.by(0, 1, 0), 'P');
        due.yes("300", list.customs(3, 0, 300));
        due.is("A for all", list.by(0, 1, 0), 0);
    }

    private static void promise11And12() {
        due.sentence("Whether the TIE of CHRISTENING i to a COUPLE can be: 1, 0; NONE: no such ones.");
        FontList list = two();
        all("CHRISTENING", -1, NO_PAIR, i -> list.tie(i, 0));
        all("COUPLE", -1, NO_PAIR, c -> list.tie(0, c));
        due.is("the last of both", list.tie(1, 1), 1);
        due.sentence("Whether a FAMILY (a set of CHRISTENINGS, as bits) can be: 1, 0; NONE: no such ones.");
        int[] noSets = {-1, 4, 5, 8, 1024, 1 << 30, LEAST, GREATEST, LEAST + 1};
        all("COUPLE", -1, NO_PAIR, c -> list.family(c, 0));
        all("set", -1, noSets, set -> list.family(0, set));
        due.is("none", list.family(1, 0), 1);
        due.is("the last", list.family(1, 2), 1);
        due.is("all: they can't be", list.family(1, 3), 0);
        FontList ten = tenSons();
        due.is("all ten", ten.family(0, 1023), 1);
        due.is("the tenth", ten.family(0, 512), 1);
        all("set of an eleventh", -1, new int[] {1024, 1025, 2047, 2048}, set -> ten.family(0, set));
    }

    private static void promise13To15() {
        FontList list = two();
        int[] noSets = {-1, 4, 5, 8, 1024, 1 << 30, LEAST, GREATEST};
        due.sentence("POINTS of a FAMILY; -1000000: it can't be, no such ones.");
        all("COUPLE", -1000000, NO_PAIR, c -> list.points(c, 0));
        all("set", -1000000, noSets, set -> list.points(0, set));
        due.is("it can't be", list.points(0, 3), -1000000);
        due.is("none", list.points(1, 0), 0);
        due.sentence("Of CHRISTENING i in a FAMILY, by which CLAUSE (its letter's byte); 0: it is FREE; NONE: no such ones,"
            + " it can't be, i is not in it.");
        all("COUPLE", -1, NO_PAIR, c -> list.by(c, 1, 0));
        all("set", -1, noSets, set -> list.by(0, set, 0));
        all("CHRISTENING", -1, NO_PAIR, i -> list.by(0, 1, i));
        due.is("it can't be", list.by(0, 3, 0), -1);
        due.is("0 is not in it", list.by(0, 2, 0), -1);
        due.is("1 is not in it", list.by(0, 1, 1), -1);
        due.is("nobody is in it", list.by(0, 0, 0), -1);
        due.is("it is", list.by(0, 2, 1), 80);
        due.sentence("Which NAME it should have; -2: it is FREE; NONE likewise.");
        all("COUPLE", -1, NO_PAIR, c -> list.should(c, 1, 0));
        all("set", -1, noSets, set -> list.should(0, set, 0));
        all("CHRISTENING", -1, NO_PAIR, i -> list.should(0, 1, i));
        due.is("it can't be", list.should(0, 3, 0), -1);
        due.is("it is not in it", list.should(0, 2, 0), -1);
        due.is("NAME 0", list.should(0, 2, 1), 0);
        due.use(list, "P(n=2)");
        due.is("FREE", list.should(0, 2, 1), -2);
        due.is("by nothing", list.by(0, 2, 1), 0);
        due.is("no POINTS", list.points(0, 2), 0);
    }

    private static void promise16() {
        due.sentence("THE BEST: the COUPLE of CHRISTENING i, 6 nobody; NONE: no such one.");
        FontList list = two();
        list.weighs(10, 20);
        due.is("the first", list.best(0), 0);
        due.is("the last", list.best(1), 1);
        all("CHRISTENING", -1, NO_PAIR, i -> list.best(i));
        list.weighs(11, 10);
        due.is("nobody", list.best(0), 6);
        FontList six = new FontList();
        six.name(0, 5);
        six.name(1, 5);
        for (int c = 0; c < 6; c++) {
            six.couple(0, 1, 10 * c, 10 * c);
        }
        for (int i = 0; i < 10; i++) {
            six.christening(0, 10 * (9 - i), 0, 1, -1);
            due.is("the COUPLE of its YEAR", six.best(i), i < 4 ? 6 : 9 - i);
        }
        due.is("no tenth one", six.best(10), -1);
    }

    private static void promise17() {
        due.sentence("WAYS, what 0 POINTS of THE BEST, 1 how many have as many, 2 how many there are, 3 THE GAP (NONE: none)."
            + " NONE for others.");
        FontList list = two();
        for (int what : new int[] {-1, 4, 5, LEAST, GREATEST}) {
            due.is("what " + what, list.ways(what), -1);
        }
        due.is("both 10 less", list.ways(0), -20);
        due.is("0 and 1, 1 and 0", list.ways(1), 2);
        due.is("nobody for both, for one, for none", list.ways(2), 1 + 4 + 2);
        due.is("one of them alone", list.ways(3), 10);
        list.weighs(0, 0);
        due.is("all alike", list.ways(1), 7);
        due.is("no GAP", list.ways(3), -1);
    }

    private static void promise18() {
        due.sentence("A TIE (couple 6: nobody): 2 SURE, 0 NEVER, 1 neither; NONE: no such ones.");
        FontList list = two();
        all("CHRISTENING", -1, NO_PAIR, i -> list.sure(i, 0));
        all("CHRISTENING, nobody", -1, NO_PAIR, i -> list.sure(i, 6));
        all("COUPLE", -1, new int[] {-1, 2, 3, 4, 5, 7, 8, LEAST, GREATEST}, c -> list.sure(0, c));
        due.is("either", list.sure(0, 0), 1);
        due.is("nobody", list.sure(0, 6), 1);
        child(list, PAUL, 91);
        due.is("NEVER", list.sure(2, 1), 0);
        due.is("SURE", list.sure(2, 6), 2);
    }

    private static void promise19() {
        due.sentence("GRAND: NAMES of parent w of a COUPLE, as bits (0: none); NONE: no such ones.");
        FontList list = two();
        all("COUPLE", -1, NO_PAIR, c -> list.grand(c, 0));
        all("parent", -1, new int[] {-1, 4, 5, 32, LEAST, GREATEST}, w -> list.grand(1, w));
        for (int w = 0; w < 4; w++) {
            due.is("none", list.grand(1, w), 0);
        }
    }

    private static void promise20() {
        due.sentence("MUST HAVE BEEN: how many of a SEX in a FAMILY; -2: 5 don't do; NONE: no such ones, it can't be.");
        FontList list = two();
        all("COUPLE", -1, NO_PAIR, c -> list.must(c, 0, 0));
        all("set", -1, new int[] {-1, 4, 5, 1024, LEAST, GREATEST}, set -> list.must(0, set, 0));
        all("SEX", -1, new int[] {-1, 2, 3, LEAST, GREATEST}, sex -> list.must(0, 1, sex));
        due.is("it can't be", list.must(0, 3, 0), -1);
        due.is("it can't be, of no son", list.must(0, 3, 1), -1);
        due.is("one ahead of him", list.must(0, 1, 0), 1);
        due.use(list, "P(n>0)");
        due.is("5 don't do", list.must(0, 1, 0), -2);
        due.is("of no daughter", list.must(0, 1, 1), 0);
        due.is("of nobody", list.must(0, 0, 0), 0);
    }

    private static void promise21() {
        due.sentence("JUDGED by as many bytes of the tape as there are CHRISTENINGS (empty then): its POINTS");
        FontList list = two();
        Due.row(list, 0, 1, 0, 0, 0, 0);
        list.feed(-1, -1, -1, -1, -1);
        due.is("the first two of 40", list.judge(), -20);
        due.is("empty then", list.count(3), 0);
        due.is("not so many", list.judge(), -1000000);
        due.sentence("-2000000 less the CHRISTENING whose TIE can't be (or whose number is above 6, or of no COUPLE),"
            + " -3000000 less the COUPLE whose FAMILY can't be; -1000000: it has not so many (the tape stays)");
        int[][] rows = {{2, 0}, {5, 0}, {7, 0}, {255, 0}, {0, 2}, {0, 5}, {0, 7}, {6, 128}, {0, 0}, {1, 1}, {6, 6}};
        int[] want = {-2000000, -2000000, -2000000, -2000000, -2000001, -2000001, -2000001, -2000001, -3000000,
            -3000001, -40};
        for (int k = 0; k < rows.length; k++) {
            Due.row(list, rows[k]);
            due.is("row " + rows[k][0] + ", " + rows[k][1], list.judge(), want[k]);
            due.is("empty then", list.count(3), 0);
        }
        FontList none = people();
        due.is("no CHRISTENING, no tape", none.judge(), 0);
        none.feed(-1, -1, -1, -1, -1);
        due.is("no CHRISTENING", none.judge(), 0);
        due.is("empty then", none.count(3), 0);
    }

    private static void promise22() {
        due.sentence("LEARNT from a WAY told as for judge(), YEARS of CHANGE from one to another (0 to 300), what 0 A, 1 B,"
            + " 2 the YEAR, 3 the POINTS");
        FontList list = two();
        int[] want = {0, 0, 300, -20};
        for (int what = 0; what < 4; what++) {
            Due.row(list, 0, 1);
            list.feed(-1, -1, -1, -1, -1);
            due.is("what " + what, list.learnt(300, 300, what), want[what]);
            due.is("empty then", list.count(3), 0);
        }
        due.sentence("-2000000: it is no WAY; -1000000: no such ones, no CUSTOM is told, it has not so many (the tape stays)");
        due.is("not so many", list.learnt(0, 300, 0), -1000000);
        int[][] noWays = {{0, 0}, {2, 0}, {0, 7}, {1, 1}};
        for (int[] row : noWays) {
            Due.row(list, row);
            due.is("no WAY", list.learnt(0, 300, 0), -2000000);
            due.is("empty then", list.count(3), 0);
        }
        Due.row(list, 0, 0);
        all("from", -1000000, new int[] {-1, 301, LEAST, GREATEST}, from -> list.learnt(from, 300, 0));
        all("to", -1000000, new int[] {-1, 301, LEAST, GREATEST}, to -> list.learnt(0, to, 0));
        all("to ahead of from", -1000000, new int[] {0, 1, 149}, to -> list.learnt(150, to, 0));
        all("what", -1000000, new int[] {-1, 4, LEAST, GREATEST}, what -> list.learnt(0, 300, what));
        due.is("the tape stays", list.count(3), 20);
        FontList untold = people();
        child(untold, PAUL, 20);
        Due.row(untold, 0);
        due.is("no CUSTOM is told", untold.learnt(0, 300, 0), -1000000);
        due.is("the tape stays", untold.count(3), 20);
        due.is("as it was", untold.judge(), 0);
        FontList none = people();
        due.is("no CUSTOM, no CHRISTENING", none.learnt(7, 9, 2), -1000000);
        due.use(none, "P(n=1)");
        due.is("no CHRISTENING, no tape: the first YEAR", none.learnt(7, 9, 2), 7);
        due.is("no CHRISTENING, no tape: no POINTS", none.learnt(7, 9, 3), 0);
        none.feed(-1, -1, -1, -1, -1);
        due.is("no CHRISTENING", none.learnt(7, 9, 1), 0);
        due.is("empty then", none.count(3), 0);
    }

    private static void promise23() {
        due.sentence("LITTLE: CHRISTENINGS, as bits, by so much (0 to 1000); NONE: no such number.");
        FontList list = two();
        all("so much", -1, new int[] {-1, 1001, LEAST, GREATEST}, much -> list.little(much));
        due.is("0", list.little(0), 0);
        due.is("1000", list.little(1000), 3);
        FontList none = new FontList();
        due.is("no CHRISTENING", none.little(0), 0);
        due.is("no CHRISTENING, no such number", none.little(1001), -1);
    }

    private static void promise24() {
        due.sentence("CHECK by as many bytes of the tape as there are CHRISTENINGS (empty then): NONE: right; else the first"
            + " that is not so; -2: it has not so many (the tape stays).");
        FontList list = two();
        due.is("no tape", list.check(), -2);
        Due.row(list, 0, 1, 9);
        list.feed(-1, -1, -1, -1, -1);
        due.is("the first two of 40", list.check(), -1);
        due.is("empty then", list.count(3), 0);
        Due.row(list, 1, 0);
        due.is("as good, but not so", list.check(), 0);
        due.is("empty then", list.count(3), 0);
        Due.row(list, 0, 6);
        due.is("the second", list.check(), 1);
        FontList none = people();
        due.is("no CHRISTENING, no tape", none.check(), -1);
        none.feed(-1, -1, -1, -1, -1);
        due.is("no CHRISTENING", none.check(), -1);
        due.is("empty then", none.count(3), 0);
    }

    private static void promise25() {
        due.sentence("Of CHRISTENING i, what 0 NAME, 1 YEAR, 2 father, 3 mother, 4 SPONSOR, 5 DIED. NONE for others.");
        FontList list = two();
        list.died(1, 299);
        int[] want = {MARK, 21, JOHN, MARY, -1, 299};
        for (int what = 0; what < 6; what++) {
            due.is("what " + what, list.look(1, what), want[what]);
        }
        all("what", -1, new int[] {-1, 6, 7, LEAST, GREATEST}, what -> list.look(1, what));
        all("CHRISTENING", -1, NO_PAIR, i -> list.look(i, 1));
    }

    private static void promise26() {
        due.sentence("0 NAMES, 1 COUPLES, 2 CHRISTENINGS, 3 bytes of the tape, 4 A, 5 B, 6 the YEAR of CHANGE (4 to 6: NONE at"
            + " first); 10 + k CLAUSES of CUSTOM k (0: not told). NONE for others.");
        FontList list = two();
        list.feed(0, 0, 0, 0, 0);
        int[] want = {7, 2, 2, 20, 0, 0, 0};
        for (int what = 0; what < 7; what++) {
            due.is("count(" + what + ")", list.count(what), want[what]);
        }
        all("what", -1, new int[] {-1, 7, 8, 9, 14, 15, LEAST, GREATEST}, what -> list.count(what));
        due.is("one CLAUSE", list.count(10), 1);
        all("not told", 0, new int[] {11, 12, 13}, what -> list.count(what));
        due.is("twelve", Due.custom(list, 3, Due.times("P(n=1);", 11) + "P(n=1)"), 12);
        due.is("12 CLAUSES", list.count(13), 12);
        list.customs(3, 2, 300);
        due.is("A", list.count(4), 3);
        due.is("B", list.count(5), 2);
        due.is("the YEAR", list.count(6), 300);
    }
}
