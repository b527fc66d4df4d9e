/** Terms, part 4: each sentence on GRAND, MUST HAVE BEEN, LEARNT, JUDGED, LITTLE and CHECK that names a boundary case. */
public final class BestEdgesTest extends Parish {
    private static final Due due = new Due();

    public static void main(String[] args) {
        grandNames();
        grandTold();
        grandOfNoChild();
        mustBeFewest();
        mustBeFiveAtMost();
        mustStandSomewhereAhead();
        mustLeaveFreeOnes();
        mustGrowNumbersAlone();
        mustHoldForParentsNotTold();
        learntOverCustomsThatAreTold();
        learntBetweenTwoYears();
        learntOfLikeOnes();
        judgedByNumbers();
        judgedByTheFirstTie();
        judgedByTheFirstFamily();
        littleOfThoseWithACouple();
        littleByLess();
        checkTheFirst();
        due.end("BestEdgesTest");
    }

    private static void grandNames() {
        due.sentence("the NAMES that it can have by THE BEST: all by which children have most POINTS, as bits");
        FontList list = tenSons();
        due.use(list, "F(n>0)");
        list.weighs(10, 1000);
        due.is("ten of like POINTS", list.grand(0, 0), 1023);
        due.use(list, "F(n=10)");
        due.is("the tenth son's", list.grand(0, 0), 1);
        due.use(list, "M(n=1)");
        due.is("the first son's", list.grand(0, 2), 1 << 9);
        FontList last = new FontList();
        for (int k = 0; k < 16; k++) {
            last.name(k % 2, 5);
        }
        last.couple(0, 1, 0, 99);
        last.christening(15, 20, 0, 1, -1);
        due.use(last, "m(n=1)");
        due.is("NAME 15", last.grand(0, 3), 1 << 15);
        last.weighs(10, 0);
        due.is("still in THE BEST", last.grand(0, 3), 1 << 15);
    }

    private static void grandTold() {
        due.sentence("(told: that one; for no child: none)");
        FontList list = people();
        for (int w = 0; w < 4; w++) {
            due.is("no child", list.grand(0, w), 0);
            list.parent(0, w, w % 2 == 0 ? JOHN : RUTH);
            due.is("told, no child", list.grand(0, w), w % 2 == 0 ? 1 : 1 << RUTH);
        }
        child(list, PAUL, 20);
        due.use(list, "F(n=1)");
        due.is("told, a child of another NAME", list.grand(0, 0), 1);
    }

    private static void grandOfNoChild() {
        due.sentence("for no child: none)");
        FontList list = twoCouples();
        child(list, PAUL, 20);
        due.is("a child that is FREE", list.grand(0, 0), 0);
        due.use(list, "F(n=1)");
        due.is("his father", list.grand(0, 0), 1 << PAUL);
        due.is("her father", list.grand(0, 2), 0);
        due.is("not THE BEST's COUPLE", list.grand(1, 0), 0);
        list.died(0, 20);
        child(list, MARK, 91);
        due.is("one who has nobody", list.grand(0, 0), 1 << PAUL);
    }

    private static FontList john(String text) {
        FontList list = people();
        child(list, JOHN, 20);
        list.parent(0, 0, PAUL);
        list.parent(0, 2, MARK);
        due.use(list, text);
        return list;
    }

    private static void mustBeFewest() {
        due.sentence("of a FAMILY: the fewest children of one SEX (5 at most)");
        for (int n = 1; n <= 6; n++) {
            FontList list = john("P(n=" + n + ");F(n>0)");
            due.is("John is number " + n, list.must(0, 1, 0), n - 1);
            due.is("no daughter", list.must(0, 1, 1), 0);
        }
        due.is("more would do, too", john("P(n>2);F(n>0)").must(0, 1, 0), 2);
        due.is("no child", john("F(n>0)").must(0, 0, 0), 0);
    }

    private static void mustBeFiveAtMost() {
        due.sentence("none if 5 don't do");
        due.is("a sixth one", john("P(n=6);F(n>0)").must(0, 1, 0), 5);
        due.is("a seventh one", john("P(n=7);F(n>0)").must(0, 1, 0), -2);
        due.is("FREE as a sixth one", john("F(n<6)").must(0, 1, 0), 5);
        due.is("FREE as a seventh one", john("F(n<7)").must(0, 1, 0), -2);
        due.is("never", john("F(n>0)").must(0, 1, 0), -2);
        FontList two = john("F(n=2);M(n=7);P(n>0)");
        two.parent(0, 0, JOHN);
        child(two, MARK, 30);
        due.is("none ahead of John, five ahead of Mark", two.must(0, 3, 0), 5);
        due.use(two, "F(n=2);M(n=8);P(n>0)");
        due.is("six ahead of Mark", two.must(0, 3, 0), -2);
        FontList ten = tenSons();
        due.is("all ten are FREE", ten.must(0, 1023, 0), 0);
        ten.parent(0, 0, 5);
        due.use(ten, "P(n=15);F(n>9)");
        due.is("five between the ninth and the tenth", ten.must(0, 1023, 0), 5);
        due.use(ten, "P(n=16);F(n>9)");
        due.is("six between the ninth and the tenth", ten.must(0, 1023, 0), -2);
    }

    private static void mustStandSomewhereAhead() {
        due.sentence("elder ones somewhere ahead of its children of that SEX");
        FontList list = john("F(n=1);M(n=2);P(n=3);M(n>3)");
        list.christening(PAUL, 10, JOHN, MARY, -1);
        due.is("one between Paul and John", list.must(0, 3, 0), 1);
        list.christening(MARK, 12, JOHN, MARY, -1);
        due.is("none", list.must(0, 7, 0), 0);
        due.is("one ahead of Mark and John", list.must(0, 5, 0), 1);
        due.is("two ahead of John", list.must(0, 1, 0), 2);
        due.is("a sister changes nothing", list.christening(ANNE, 14, JOHN, MARY, -1), 3);
        due.is("two ahead of John, behind his sister", list.must(0, 9, 0), 2);
    }

    private static void mustLeaveFreeOnes() {
        due.sentence("so that each of these that is not FREE then has the NAME that it should have");
        due.is("FREE at once", john("F(n>1)").must(0, 1, 0), 0);
        due.is("FREE behind two", john("F(n<3)").must(0, 1, 0), 2);
        FontList both = john("F(n=1);P(n=2);F(n=3)");
        child(both, LUKE, 30);
        due.is("John a second one, Luke a fourth one", both.must(0, 3, 0), 2);
        child(both, ANNE, 40);
        due.use(both, "P(n>0);Q(n=1)");
        due.is("of the other SEX as it is", both.must(0, 5, 0), 0);
        due.is("Anne is FREE as a second one", both.must(0, 5, 1), 1);
    }

    private static void mustGrowNumbersAlone() {
        due.sentence("(n grows by those ahead; all else as it is");
        for (String fact : new String[] {"b=1", "c=2", "e=1", "t=1", "w=9"}) {
            due.is("not " + fact, john("P(" + fact + ");F(n>0)").must(0, 1, 0), -2);
        }
        due.is("n alone", john("P(n=2&b=0&c=1&e=0&t=0&w=10);F(n>0)").must(0, 1, 0), 1);
        FontList dead = people();
        child(dead, PAUL, 20);
        child(dead, PAUL, 30);
        dead.died(0, 30);
        due.use(dead, "D(n=4&e=1);P(n>1)");
        due.is("the dead one as he is", dead.must(0, 3, 0), 2);
        due.is("nobody dead ahead of him", dead.must(0, 1, 0), 0);
    }

    private static void mustHoldForParentsNotTold() {
        due.sentence("parents not told may have any NAME, the same for all children)");
        FontList list = people();
        child(list, PAUL, 20);
        child(list, MARK, 30);
        due.use(list, "F(n>0)");
        due.is("any NAME for one", list.must(0, 1, 0), 0);
        due.is("no NAME for both", list.must(0, 3, 0), -2);
        due.use(list, "F(n<3);M(n>2)");
        due.is("his father Paul, her father Mark", list.must(0, 3, 0), 1);
        list.parent(0, 0, MARK);
        due.is("his father Mark: both named for hers", list.must(0, 3, 0), -2);
        list.parent(0, 2, PAUL);
        due.is("her father Paul: Paul is a third one, Mark none", list.must(0, 3, 0), -2);
        list.parent(0, 0, PAUL);
        list.parent(0, 2, MARK);
        due.is("told", list.must(0, 3, 0), 1);
        due.is("Mark alone", list.must(0, 2, 0), 2);
        FontList first = people();
        child(first, JOHN, 20);
        child(first, ANNE, 30);
        due.use(first, "M(n>0);f(n>0)");
        due.is("her father NAME 0", first.must(0, 3, 0), 0);
        due.is("his mother NAME 5", first.must(0, 3, 1), 0);
        due.use(first, "F(n>0);m(n>0)");
        due.is("his father NAME 0", first.must(0, 3, 0), 0);
        due.is("her mother NAME 5", first.must(0, 3, 1), 0);
        child(first, RUTH, 40);
        due.is("no NAME for both daughters", first.must(0, 7, 1), -2);
        due.use(first, "f(n<3);m(n>2)");
        due.is("his mother Anne, her mother Ruth", first.must(0, 7, 1), 1);
    }

    private static void learns(FontList list, int from, int to, int[] row, int... want) {
        for (int what = 0; what < 4; what++) {
            Due.row(list, row);
            due.is("learnt(" + from + ", " + to + ", " + what + ")", list.learnt(from, to, what), want[what]);
        }
    }

    private static void learntOverCustomsThatAreTold() {
        due.sentence("over pairs of CUSTOMS that are told (one twice, too)");
        FontList list = people();
        child(list, JOHN, 20);
        child(list, PAUL, 30);
        Due.custom(list, 3, "P(n=1)");
        learns(list, 0, 300, new int[] {0, 0}, 3, 3, 0, 11);
        Due.custom(list, 1, "P(n=2)");
        learns(list, 0, 300, new int[] {0, 0}, 1, 3, 0, 11);
        learns(list, 21, 300, new int[] {0, 0}, 3, 1, 31, 11);
        Due.custom(list, 0, "M(n=2)");
        learns(list, 21, 300, new int[] {0, 0}, 3, 0, 21, 23);
        list.customs(1, 1, 5);
        learns(list, 21, 300, new int[] {0, 0}, 3, 0, 21, 23);
    }

    private static void learntBetweenTwoYears() {
        due.sentence("a YEAR of CHANGE between two YEARS");
        FontList list = people();
        child(list, JOHN, 20);
        child(list, PAUL, 30);
        Due.custom(list, 0, "P(n=1);P(n=2)");
        Due.custom(list, 1, "F(n=2);F(n=1&a=1)");
        learns(list, 0, 300, new int[] {0, 0}, 0, 1, 21, 23);
        learns(list, 21, 21, new int[] {0, 0}, 0, 1, 21, 23);
        learns(list, 30, 30, new int[] {0, 0}, 0, 1, 30, 23);
        learns(list, 22, 29, new int[] {0, 0}, 0, 1, 22, 23);
        learns(list, 31, 300, new int[] {0, 0}, 1, 0, 31, 12);
        learns(list, 0, 20, new int[] {0, 0}, 0, 1, 0, 12);
        learns(list, 0, 0, new int[] {0, 0}, 0, 1, 0, 12);
        learns(list, 300, 300, new int[] {0, 0}, 1, 0, 300, 12);
        learns(list, 20, 20, new int[] {6, 6}, 0, 0, 20, -40);
    }

    private static void learntOfLikeOnes() {
        due.sentence("of like ones the least A, then B, then YEAR");
        FontList list = people();
        child(list, JOHN, 20);
        for (int k = 3; k >= 0; k--) {
            Due.custom(list, k, "P(n=1)");
            learns(list, 3, 9, new int[] {0}, k, k, 3, 11);
        }
        Due.custom(list, 0, "F(n=1&b=1)");
        learns(list, 3, 9, new int[] {0}, 0, 1, 3, 11);
        learns(list, 21, 29, new int[] {0}, 1, 0, 21, 11);
        Due.custom(list, 1, "S(n=1)");
        learns(list, 3, 29, new int[] {0}, 0, 2, 3, 11);
        learns(list, 20, 29, new int[] {0}, 0, 2, 20, 11);
    }

    private static void judged(FontList list, int want, int... row) {
        Due.row(list, row);
        due.is("judge()", list.judge(), want);
    }

    private static void judgedByNumbers() {
        due.sentence("JUDGED is a row of COUPLES (for each CHRISTENING a number 0 to 6) as a WAY");
        FontList list = new FontList();
        list.name(0, 7);
        list.name(1, 5);
        for (int c = 0; c < 6; c++) {
            list.couple(0, 1, 0, 99);
        }
        list.christening(0, 20, 0, 1, -1);
        due.use(list, "P(n=1)");
        for (int c = 0; c < 6; c++) {
            judged(list, 7, c);
        }
        judged(list, -20, 6);
        for (int wrong : new int[] {7, 8, 127, 128, 255}) {
            judged(list, -2000000, wrong);
        }
    }

    private static void judgedByTheFirstTie() {
        due.sentence("the first CHRISTENING (by numbers) whose TIE can't be");
        FontList list = new FontList();
        list.name(0, 7);
        list.name(1, 5);
        list.couple(0, 1, 0, 19);
        for (int i = 0; i < 10; i++) {
            list.christening(0, 20, 0, 1, -1);
        }
        int[] row = {6, 6, 6, 6, 6, 6, 6, 6, 6, 6};
        judged(list, -200, row);
        for (int i = 9; i >= 0; i--) {
            row[i] = 0;
            judged(list, -2000000 - i, row);
            row[i] = i % 2 == 0 ? 7 : 1;
        }
        FontList years = people();
        child(years, PAUL, 90);
        child(years, MARK, 10);
        child(years, LUKE, 91);
        child(years, LUKE, 9);
        judged(years, -2000002, 0, 0, 0, 0);
        judged(years, -2000003, 0, 0, 6, 0);
        judged(years, -40, 0, 0, 6, 6);
    }

    private static void judgedByTheFirstFamily() {
        due.sentence("else the first COUPLE whose FAMILY can't be; else its POINTS");
        FontList list = new FontList();
        for (int k = 0; k < 10; k++) {
            list.name(0, 7);
        }
        list.name(1, 5);
        for (int c = 0; c < 6; c++) {
            list.couple(0, 10, 0, 99);
        }
        for (int i = 0; i < 10; i++) {
            list.christening(i, 20 + i % 2, 0, 10, -1);
        }
        due.is("ten", list.count(2), 10);
        judged(list, -3000005, 5, 5, 6, 6, 6, 6, 6, 6, 6, 6);
        judged(list, -3000004, 5, 5, 4, 4, 6, 6, 6, 6, 6, 6);
        judged(list, -3000000, 5, 5, 4, 4, 0, 0, 6, 6, 6, 6);
        judged(list, -3000000, 0, 6, 0, 6, 0, 6, 6, 6, 6, 6);
        judged(list, -120, 0, 1, 0, 1, 6, 6, 6, 6, 6, 6);
        judged(list, -2000009, 5, 5, 4, 4, 0, 0, 6, 6, 6, 7);
    }

    private static void littleOfThoseWithACouple() {
        due.sentence("LITTLE: CHRISTENINGS with a COUPLE in THE BEST");
        FontList list = people();
        child(list, PAUL, 20);
        child(list, MARK, 91);
        child(list, LUKE, 30);
        due.is("not him who has nobody", list.little(1000), 0b101);
        FontList none = new FontList();
        due.is("no CHRISTENING", none.little(1000), 0);
        FontList ten = tenSons();
        due.is("all ten", ten.little(21), 1023);
        due.is("none of ten", ten.little(20), 0);
    }

    private static void littleByLess() {
        due.sentence("(at nobody, all else as it is) the WAY would have less than so many POINTS fewer");
        FontList list = people();
        child(list, JOHN, 20);
        child(list, PAUL, 30);
        due.use(list, "P(n=1)");
        // John: from 11 to -10 for Paul as a first one, and 20 for nobody; Paul: 20 for nobody.
        due.is("20", list.little(20), 0);
        due.is("21", list.little(21), 0b10);
        due.is("41", list.little(41), 0b10);
        due.is("42", list.little(42), 0b11);
        due.is("0", list.little(0), 0);
        list.weighs(10, 0);
        due.is("Paul's says nothing: not less than 0", list.little(0), 0);
        due.is("less than 1", list.little(1), 0b10);
        list.weighs(10, 1000);
        due.is("1000 is not less than 1000", list.little(1000), 0);
        list.weighs(10, 999);
        due.is("999 is", list.little(1000), 0b10);
    }

    private static void checkTheFirst() {
        due.sentence("CHECK: for each CHRISTENING its COUPLE by THE BEST (6 nobody): right, or the first number that is not so");
        FontList list = twoCouples();
        for (int i = 0; i < 10; i++) {
            child(list, PAUL, i == 4 ? 20 : 91);
        }
        int[] best = {6, 6, 6, 6, 0, 6, 6, 6, 6, 6};
        Due.row(list, best);
        due.is("right", list.check(), -1);
        for (int i = 9; i >= 0; i--) {
            best[i] = i == 4 ? 1 : 0;
            Due.row(list, best);
            due.is("the first that is not so", list.check(), i);
        }
        int[] strange = {6, 6, 6, 7, 0, 6, 6, 6, 6, 6};
        Due.row(list, strange);
        due.is("7 is not so", list.check(), 3);
        strange[3] = 255;
        Due.row(list, strange);
        due.is("255 is not so", list.check(), 3);
    }
}
