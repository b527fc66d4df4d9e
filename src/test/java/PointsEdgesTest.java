/** Terms, part 3: each sentence on POINTS and WAYS that names a boundary case. */
public final class PointsEdgesTest extends Parish {
    private static final Due due = new Due();

    public static void main(String[] args) {
        pointsOfAChild();
        pointsWithLoss();
        parentsByMostPoints();
        parentsByTheLowestName();
        parentsOfItsSex();
        parentsForNoChild();
        pointsOfAFamily();
        waysOfNothing();
        waysInWhichAllFamiliesCanBe();
        waysWithAlone();
        theBestHasMostPoints();
        theBestIsTheLeastRow();
        sureInAllOfMostPoints();
        neverInNoWay();
        theGapToFewer();
        theGapThatIsNone();
        due.end("PointsEdgesTest");
    }

    private static void row(FontList list, int... want) {
        for (int i = 0; i < want.length; i++) {
            due.is("best(" + i + ")", list.best(i), want[i]);
        }
    }

    private static void pointsOfAChild() {
        due.sentence("POINTS of a child: FREE: 0; its NAME is whose it should have: what that SAYS; else LOSS less");
        FontList list = people();
        child(list, JOHN, 20);
        child(list, PAUL, 30);
        due.is("FREE", list.points(0, 1), 0);
        due.use(list, "P(n=1)");
        due.is("its NAME", list.points(0, 1), 11);
        due.is("not its NAME", list.points(0, 2), -10);
        due.is("the second is FREE", list.points(0, 3), 11);
    }

    private static void pointsWithLoss() {
        due.sentence("LOSS less (0 to 100, told; 10 at first)");
        FontList list = people();
        child(list, PAUL, 30);
        due.use(list, "P(n=1)");
        due.is("10 at first", list.points(0, 1), -10);
        due.yes("0", list.weighs(0, 20));
        due.is("0 less", list.points(0, 1), 0);
        due.yes("100", list.weighs(100, 20));
        due.is("100 less", list.points(0, 1), -100);
        for (int loss : new int[] {-1, 101, Integer.MIN_VALUE, Integer.MAX_VALUE}) {
            due.no("LOSS " + loss, list.weighs(loss, 20));
            due.is("still 100 less", list.points(0, 1), -100);
        }
    }

    /** Bart 20 (who died), Andy 30, Bart 40, all named for his father: Andy says 10, Bart 4. */
    private static FontList grandsons(int andy, int bart) {
        FontList list = new FontList();
        list.name(0, 5);
        list.name(1, 5);
        list.name(0, andy == 2 ? 10 : 4);
        list.name(0, andy == 3 ? 10 : 4);
        list.couple(0, 1, 0, 99);
        list.christening(bart, 20, 0, 1, -1);
        list.christening(andy, 30, 0, 1, -1);
        list.christening(bart, 40, 0, 1, -1);
        list.died(0, 21);
        due.use(list, "F(n>0)");
        return list;
    }

    private static void parentsByMostPoints() {
        due.sentence("that one has, for all children of the FAMILY, the NAME of its SEX by which these have most POINTS"
            + " together");
        FontList list = grandsons(2, 3);
        list.weighs(0, 20);
        due.is("LOSS 0: 10 for one or 8 for two", list.points(0, 7), 10);
        list.weighs(3, 20);
        due.is("LOSS 3: 10 - 6 or 8 - 3", list.points(0, 7), 5);
        for (int i = 0; i < 3; i++) {
            due.is("for all children", list.should(0, 7, i), 3);
        }
        list.weighs(100, 20);
        due.is("LOSS 100: 8 - 100", list.points(0, 7), -92);
        due.is("for one alone", list.points(0, 2), 10);
        list.parent(0, 0, 0);
        due.is("told: it is nobody's", list.points(0, 7), -300);
    }

    private static void parentsByTheLowestName() {
        due.sentence("(of like ones the lowest NAME");
        FontList list = grandsons(2, 3);
        list.weighs(2, 20);
        due.is("10 - 4 or 8 - 2", list.points(0, 7), 6);
        due.is("Andy is lower", list.should(0, 7, 0), 2);
        due.is("both can be", list.grand(0, 0), 0b1100);
        FontList other = grandsons(3, 2);
        other.weighs(2, 20);
        due.is("10 - 4 or 8 - 2", other.points(0, 7), 6);
        due.is("Bart is lower", other.should(0, 7, 1), 2);
        due.is("both can be", other.grand(0, 0), 0b1100);
    }

    private static void parentsOfItsSex() {
        due.sentence("the NAME of its SEX by which these have most POINTS");
        FontList list = people();
        child(list, PAUL, 20);
        child(list, RUTH, 30);
        due.use(list, "F(1=1);f(1=1)");
        due.is("his father", list.should(0, 3, 0), PAUL);
        due.is("his mother", list.should(0, 3, 1), RUTH);
        due.use(list, "M(1=1);m(1=1)");
        due.is("her father", list.should(0, 3, 0), PAUL);
        due.is("her mother", list.should(0, 3, 1), RUTH);
        due.is("12 and 17", list.points(0, 3), 29);
    }

    private static void parentsForNoChild() {
        due.sentence("for no child: none)");
        FontList list = people();
        child(list, PAUL, 20);
        due.use(list, "F(n=1);M(n=2);f(n=1)");
        due.is("his father's for one", list.grand(0, 0), 1 << PAUL);
        for (int w = 1; w < 4; w++) {
            due.is("for no child", list.grand(0, w), 0);
        }
    }

    private static void pointsOfAFamily() {
        due.sentence("POINTS of a FAMILY: of its children, together.");
        FontList list = tenSons();
        due.is("none", list.points(0, 0), 0);
        due.use(list, "F(n>0)");
        list.weighs(100, 0);
        due.is("one of ten has it", list.points(0, 1023), 100 - 900);
        due.use(list, "F(n=1);M(n=10)");
        due.is("two of ten have it", list.points(0, 1023), 200);
        due.use(list, "P(n>0)");
        due.is("the tenth has it", list.points(0, 1023), 100 - 900);
        due.is("all but the tenth", list.points(0, 511), -900);
    }

    private static void waysOfNothing() {
        due.sentence("A WAY: each CHRISTENING has a COUPLE, or nobody");
        FontList list = people();
        due.is("no CHRISTENING: one WAY", list.ways(2), 1);
        due.is("of no POINTS", list.ways(0), 0);
        FontList alone = new FontList();
        alone.name(0, 5);
        alone.christening(0, 0, 0, -1, -1);
        due.is("no COUPLE: one WAY", alone.ways(2), 1);
        due.is("of ALONE less", alone.ways(0), -20);
        row(alone, 6);
    }

    private static void waysInWhichAllFamiliesCanBe() {
        due.sentence("so that all FAMILIES can be");
        FontList list = twoCouples();
        child(list, PAUL, 20);
        due.is("two COUPLES and nobody", list.ways(2), 3);
        child(list, MARK, 22);
        due.is("YEARS apart", list.ways(2), 9);
        FontList next = twoCouples();
        child(next, PAUL, 20);
        child(next, MARK, 21);
        due.is("YEARS that follow", next.ways(2), 9 - 2);
        FontList twins = twoCouples();
        child(twins, PAUL, 20);
        child(twins, MARK, 20);
        due.is("TWINS", twins.ways(2), 9);
        child(twins, LUKE, 20);
        due.is("not three in a YEAR", twins.ways(2), 27 - 2);
        FontList again = twoCouples();
        child(again, PAUL, 20);
        child(again, PAUL, 30);
        due.is("one NAME", again.ways(2), 9 - 2);
        again.died(0, 30);
        due.is("it DIED", again.ways(2), 9);
        child(again, PAUL, 91);
        due.is("one too late for both", again.ways(2), 9);
    }

    private static void waysWithAlone() {
        due.sentence("less ALONE (0 to 1000, told; 20 at first) for each that has nobody");
        FontList list = new FontList();
        list.name(0, 5);
        for (int i = 0; i < 10; i++) {
            list.christening(0, i, 0, -1, -1);
        }
        due.is("20 at first", list.ways(0), -200);
        due.yes("0", list.weighs(10, 0));
        due.is("0 less", list.ways(0), 0);
        due.yes("1000", list.weighs(10, 1000));
        due.is("1000 less for each of ten", list.ways(0), -10000);
        for (int alone : new int[] {-1, 1001, Integer.MIN_VALUE, Integer.MAX_VALUE}) {
            due.no("ALONE " + alone, list.weighs(10, alone));
            due.is("still 1000 less", list.ways(0), -10000);
        }
        Due.row(list, 6, 6, 6, 6, 6, 6, 6, 6, 6, 6);
        due.is("as it is JUDGED", list.judge(), -10000);
    }

    private static void theBestHasMostPoints() {
        due.sentence("THE BEST: of most POINTS");
        FontList list = twoCouples();
        child(list, PAUL, 20);
        list.parent(0, 0, MARK);
        list.parent(1, 0, PAUL);
        due.use(list, "F(n=1)");
        row(list, 1);
        due.is("12", list.ways(0), 12);
        list.parent(1, 0, MARK);
        list.weighs(21, 20);
        row(list, 6);
        due.is("20 less for nobody", list.ways(0), -20);
        list.weighs(19, 20);
        row(list, 0);
        due.is("19 less for either", list.ways(0), -19);
    }

    private static void theBestIsTheLeastRow() {
        due.sentence("of like ones the least row (by CHRISTENINGS: the COUPLE, 6 for nobody)");
        FontList list = twoCouples();
        child(list, PAUL, 20);
        list.parent(0, 0, MARK);
        list.parent(1, 0, MARK);
        due.use(list, "F(n=1)");
        list.weighs(20, 20);
        row(list, 0);
        due.is("0, 1 and nobody", list.ways(1), 3);
        FontList next = twoCouples();
        child(next, PAUL, 21);
        child(next, MARK, 20);
        child(next, LUKE, 22);
        row(next, 0, 1, 1);
        due.is("or 1, 0, 0", next.ways(1), 2);
        next.weighs(10, 0);
        row(next, 0, 1, 1);
        due.is("or any of them with nobody", next.ways(1), next.ways(2));
        FontList late = twoCouples();
        late.couple(JOHN, ANNE, 10, 90);
        late.christening(PAUL, 20, JOHN, ANNE, -1);
        late.christening(MARK, 21, JOHN, -1, -1);
        row(late, 2, 0);
    }

    private static void sureInAllOfMostPoints() {
        due.sentence("SURE is a TIE in all WAYS of most POINTS");
        FontList list = twoCouples();
        child(list, PAUL, 20);
        due.is("0 or 1", list.sure(0, 0), 1);
        due.is("1 or 0", list.sure(0, 1), 1);
        due.is("nobody in WAYS of fewer", list.sure(0, 6), 1);
        list.parent(0, 0, PAUL);
        list.parent(1, 0, MARK);
        due.use(list, "F(n=1)");
        due.is("in the only WAY of most", list.sure(0, 0), 2);
        due.is("in WAYS of fewer", list.sure(0, 1), 1);
        FontList alone = people();
        child(alone, PAUL, 20);
        due.is("the only COUPLE", alone.sure(0, 0), 2);
        alone.weighs(10, 0);
        due.is("nobody is as good", alone.sure(0, 0), 1);
        due.is("as the COUPLE is", alone.sure(0, 6), 1);
        alone.weighs(10, 1);
        due.is("by one POINT", alone.sure(0, 0), 2);
        alone.parent(0, 0, MARK);
        due.use(alone, "F(n=1)");
        due.is("nobody is SURE", alone.sure(0, 6), 2);
    }

    private static void neverInNoWay() {
        due.sentence("NEVER in no WAY");
        FontList list = twoCouples();
        list.couple(PAUL, MARY, 10, 90);
        child(list, PAUL, 9);
        child(list, PAUL, 90);
        for (int c = 0; c < 3; c++) {
            due.is("a YEAR ahead of WED", list.sure(0, c), 0);
        }
        due.is("nobody always", list.sure(0, 6), 2);
        due.is("in some", list.sure(1, 0), 1);
        due.is("another HUSBAND", list.sure(1, 2), 0);
        due.is("nobody in some", list.sure(1, 6), 1);
    }

    private static void theGapToFewer() {
        due.sentence("THE GAP: POINTS of the best less those of the best WAY that has fewer");
        FontList list = twoCouples();
        child(list, PAUL, 20);
        due.is("two of 0, then 20 less", list.ways(3), 20);
        list.weighs(10, 1);
        due.is("one POINT", list.ways(3), 1);
        list.parent(0, 0, PAUL);
        list.parent(1, 0, MARK);
        due.use(list, "F(n=1)");
        list.weighs(100, 1000);
        due.is("from 12 to -100", list.ways(3), 112);
        list.parent(1, 0, PAUL);
        due.is("from 12 to -1000", list.ways(3), 1012);
        list.parent(0, 0, MARK);
        list.parent(1, 0, MARK);
        due.is("from -100 to -1000", list.ways(3), 900);
        list.weighs(100, 0);
        due.is("from 0 to -100", list.ways(3), 100);
        // Of three COUPLES one alone has fewer: each of them in turn.
        for (int c = 0; c < 3; c++) {
            FontList three = twoCouples();
            three.couple(JOHN, MARY, 10, 90);
            child(three, PAUL, 20);
            three.parent(c, 0, MARK);
            due.use(three, "F(n=1)");
            due.is("12 for two COUPLES", three.ways(1), 2);
            due.is("from 12 to -10, not to -20", three.ways(3), 22);
        }
    }

    private static void theGapThatIsNone() {
        due.sentence("(none: no such one)");
        FontList list = twoCouples();
        due.is("no CHRISTENING", list.ways(3), -1);
        child(list, PAUL, 20);
        list.weighs(10, 0);
        due.is("all are alike", list.ways(3), -1);
        due.is("three", list.ways(1), 3);
        FontList late = twoCouples();
        child(late, PAUL, 91);
        due.is("one WAY only", late.ways(3), -1);
        due.is("one", late.ways(2), 1);
    }
}
