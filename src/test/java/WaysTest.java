/** Promises 16 to 19, 23 and 24: THE BEST of all WAYS and what is asked of it. */
public final class WaysTest {
    private static final Due due = new Due();

    public static void main(String[] args) {
        promise16LeastRow();
        promise16And17Points();
        promise17Counts();
        promise17Gap();
        promise17AllTen();
        promise17AfterChanges();
        promise18Sure();
        promise19Grand();
        promise19WithoutChildren();
        promise23Little();
        promise24Check();
        due.end("WaysTest");
    }

    /** Two COUPLES of the same NAMES, wed in 10; sons have NAMES 0, 2, 3 (5, 9, 9), daughters 1, 4 (7, 8). */
    private static FontList twoCouples() {
        FontList list = new FontList();
        list.name(0, 5);
        list.name(1, 7);
        list.name(0, 9);
        list.name(0, 9);
        list.name(1, 8);
        list.couple(0, 1, 10, 50);
        list.couple(0, 1, 10, 50);
        return list;
    }

    private static void best(String what, FontList list, int... row) {
        for (int i = 0; i < row.length; i++) {
            due.is(what + ": best(" + i + ")", list.best(i), row[i]);
        }
    }

    private static void promise16LeastRow() {
        FontList list = twoCouples();
        list.christening(0, 20, 0, -1, -1);
        list.christening(2, 21, 0, -1, -1);
        list.christening(3, 22, 0, -1, -1);
        best("all FREE", list, 0, 1, 0);
        due.is("ways(1)", list.ways(1), 2);
        list.weighs(10, 0);
        best("alone costs nothing", list, 0, 1, 0);
        due.is("best(3)", list.best(3), -1);
        due.is("best(-1)", list.best(-1), -1);
        due.use(list, "P(n=1)");
        best("0 first of 0, or alone; 1 and 2 not as first ones", list, 0, 6, 0);
        FontList late = twoCouples();
        late.christening(0, 60, 0, -1, -1);
        best("nobody", late, 6);
        FontList early = twoCouples();
        early.christening(2, 30, 0, -1, -1);
        early.christening(2, 20, 0, -1, -1);
        early.died(1, 31);
        best("a YEAR too late for the NAME", early, 0, 1);
        early.died(1, 30);
        best("in that YEAR", early, 0, 0);
    }

    private static void promise16And17Points() {
        FontList list = twoCouples();
        list.parent(1, 0, 2);
        list.parent(0, 0, 3);
        list.christening(2, 20, 0, -1, -1);
        list.christening(3, 20, 0, -1, -1);
        due.use(list, "F(n=1)");
        best("each to his grandfather", list, 1, 0);
        due.is("POINTS", list.ways(0), 18);
        due.is("one only", list.ways(1), 1);
        due.is("3 by 3", list.ways(2), 9);
        due.is("together with the second: 9 as second is FREE", list.ways(3), 9);
    }

    private static void promise17Counts() {
        FontList list = twoCouples();
        list.weighs(10, 0);
        due.is("no CHRISTENING", list.ways(2), 1);
        list.christening(0, 20, 0, -1, -1);
        due.is("one of three", list.ways(2), 3);
        list.christening(2, 21, 0, -1, -1);
        due.is("not together", list.ways(2), 7);
        list.christening(3, 22, 0, -1, -1);
        due.is("the third not with the second", list.ways(2), 17);
        due.is("all alike", list.ways(1), 17);
        due.is("no GAP", list.ways(3), -1);
        due.is("ways(4)", list.ways(4), -1);
        due.is("ways(-1)", list.ways(-1), -1);
        due.is("ways(MAX)", list.ways(Integer.MAX_VALUE), -1);
    }

    private static void promise17Gap() {
        FontList list = twoCouples();
        list.christening(0, 20, 0, -1, -1);
        list.christening(2, 30, 0, -1, -1);
        list.weighs(10, 3);
        due.use(list, "P(n=1)");
        due.is("0 with a COUPLE, 2 behind it", list.ways(0), 5);
        due.is("of either", list.ways(1), 2);
        due.is("then 2 has nobody", list.ways(3), 3);
        list.weighs(1, 3);
        due.is("then 2 is a first one", list.ways(3), 1);
        FontList told = twoCouples();
        told.christening(2, 20, 0, -1, -1);
        told.christening(3, 60, 0, -1, -1);
        told.parent(0, 0, 2);
        told.parent(1, 0, 3);
        told.weighs(2, 4);
        due.use(told, "F(n=1)");
        due.is("9 with the first, nobody for the other", told.ways(0), 5);
        due.is("then -2 with the second", told.ways(3), 11);
    }

    private static void promise17AllTen() {
        FontList list = new FontList();
        list.name(0, 100);
        list.name(1, 100);
        for (int k = 2; k < 12; k++) {
            list.name(k % 2, 100);
        }
        for (int c = 0; c < 6; c++) {
            list.couple(0, 1, 0, 299);
        }
        list.weighs(10, 1000);
        for (int i = 0; i < 10; i++) {
            list.christening(2 + i, 2 * i, 0, -1, -1);
        }
        due.is("7 for each of ten", list.ways(2), 282475249L);
        due.is("6 for each of ten", list.ways(1), 60466176L);
        due.is("POINTS", list.ways(0), 0);
        due.is("GAP", list.ways(3), 1000);
        best("the least row", list, 0, 0, 0, 0, 0, 0, 0, 0, 0, 0);
        due.use(list, "F(n=1);f(n=1);P(n>1);Q(n>1)");
        list.weighs(100, 1000);
        due.is("6 first sons or daughters each, at 5 and 5: one of each", list.ways(0), 1000);
        best("each in a COUPLE", list, 0, 0, 1, 1, 2, 2, 3, 3, 4, 4);
        due.is("720 for sons, as many for daughters", list.ways(1), 720L * 720L);
        due.is("one is no first one", list.ways(3), 200);
    }

    private static void promise17AfterChanges() {
        FontList list = twoCouples();
        list.christening(2, 20, 0, -1, -1);
        due.is("at first", list.ways(0), 0);
        due.use(list, "P(n=1)");
        due.is("a CUSTOM", list.ways(0), -10);
        list.weighs(4, 20);
        due.is("LOSS", list.ways(0), -4);
        list.weighs(4, 3);
        due.is("ALONE", list.ways(0), -3);
        Due.custom(list, 0, "F(n=1)");
        due.is("another TEXT", list.ways(0), 9);
        list.parent(0, 0, 3);
        best("his father is Luke", list, 1);
        list.parent(1, 0, 3);
        due.is("both", list.ways(0), -3);
        list.parent(1, 0, -1);
        due.is("not told", list.ways(0), 9);
        list.couple(0, 1, 0, 99);
        due.is("a COUPLE more", list.ways(2), 4);
        list.christening(2, 20, 0, -1, -1);
        due.is("a CHRISTENING more", list.ways(2), 13);
        list.died(0, 20);
        due.is("it DIED", list.ways(2), 16);
        list.customs(1, 1, 0);
        due.is("THE CUSTOM", list.ways(0), 0);
    }

    private static void promise18Sure() {
        FontList list = twoCouples();
        list.couple(0, 4, 10, 50);
        list.parent(0, 0, 3);
        list.parent(1, 0, 3);
        list.parent(2, 0, 3);
        list.christening(2, 20, 0, 1, -1);
        list.christening(3, 20, 0, 4, -1);
        list.christening(3, 60, 0, -1, -1);
        due.use(list, "F(n=1)");
        list.weighs(10, 10);
        due.is("COUPLE 0, 1 or nobody, all alike", list.sure(0, 0), 1);
        due.is("COUPLE 1", list.sure(0, 1), 1);
        due.is("another wife", list.sure(0, 2), 0);
        due.is("nobody", list.sure(0, 6), 1);
        due.is("SURE", list.sure(1, 2), 2);
        due.is("nobody: in WAYS of fewer POINTS", list.sure(1, 6), 1);
        due.is("NEVER", list.sure(1, 0), 0);
        due.is("born too late", list.sure(2, 0), 0);
        due.is("nobody in all", list.sure(2, 6), 2);
        list.weighs(10, 9);
        due.is("nobody is best", list.sure(0, 6), 2);
        due.is("COUPLE 0 in some, not of most POINTS", list.sure(0, 0), 1);
        due.is("sure(3, 0)", list.sure(3, 0), -1);
        due.is("sure(-1, 0)", list.sure(-1, 0), -1);
        due.is("sure(0, 3)", list.sure(0, 3), -1);
        due.is("sure(0, 5)", list.sure(0, 5), -1);
        due.is("sure(0, 7)", list.sure(0, 7), -1);
        due.is("sure(0, -1)", list.sure(0, -1), -1);
        sureOfThese(0, 2);
        sureOfThese(0, 4);
        sureOfThese(1, 5);
        sureOfThese(3, 5);
        sureOfThese(2, 3);
        // One COUPLE: both can't be in it, either may.
        FontList one = new FontList();
        one.name(0, 5);
        one.name(1, 5);
        one.couple(0, 1, 0, 99);
        one.christening(0, 20, 0, -1, -1);
        one.christening(1, 21, 0, -1, -1);
        one.christening(0, 50, 0, -1, -1);
        one.died(0, 30);
        due.is("either", one.sure(0, 0), 1);
        due.is("the other", one.sure(1, 0), 1);
        due.is("SURE in both", one.sure(2, 0), 2);
    }

    /** Six COUPLES of which two alone have a grandfather of the child's NAME. */
    private static void sureOfThese(int one, int other) {
        FontList list = new FontList();
        list.name(0, 5);
        list.name(1, 5);
        list.name(0, 5);
        for (int c = 0; c < 6; c++) {
            list.couple(0, 1, 0, 99);
            list.parent(c, 0, c == one || c == other ? 2 : 0);
        }
        list.christening(2, 20, 0, -1, -1);
        due.use(list, "F(n=1)");
        for (int c = 0; c < 7; c++) {
            due.is(one + " or " + other + ": sure(0, " + c + ")", list.sure(0, c), 1);
        }
        due.is("the least row", list.best(0), one);
        list.parent(one, 0, 0);
        due.is("the other alone", list.sure(0, other), 2);
    }

    private static void promise19Grand() {
        FontList list = twoCouples();
        list.christening(2, 20, 0, -1, -1);
        list.christening(3, 30, 0, -1, -1);
        list.christening(4, 40, 0, -1, -1);
        due.is("no CUSTOM", list.grand(0, 0), 0);
        due.use(list, "M(n>0);m(n>0)");
        list.weighs(2, 100);
        best("all in one by row", list, 0, 1, 0);
        due.is("her father", list.grand(0, 2), 1 << 2);
        due.is("the other's", list.grand(1, 2), 1 << 3);
        due.is("her mother", list.grand(0, 3), 1 << 4);
        due.is("no daughter there", list.grand(1, 3), 0);
        due.is("his father: for no child", list.grand(0, 0), 0);
        list.parent(0, 0, 0);
        due.is("told", list.grand(0, 0), 1);
        list.parent(0, 3, 1);
        due.is("told another one", list.grand(0, 3), 1 << 1);
        due.is("grand(2, 0)", list.grand(2, 0), -1);
        due.is("grand(-1, 0)", list.grand(-1, 0), -1);
        due.is("grand(0, 4)", list.grand(0, 4), -1);
        due.is("grand(0, -1)", list.grand(0, -1), -1);
        FontList one = new FontList();
        one.name(0, 5);
        one.name(1, 5);
        one.name(0, 5);
        one.name(0, 6);
        one.couple(0, 1, 0, 99);
        one.christening(0, 20, 0, -1, -1);
        one.christening(2, 30, 0, -1, -1);
        due.use(one, "F(n>0)");
        due.is("two alike", one.grand(0, 0), 0b101);
        one.christening(3, 40, 0, -1, -1);
        due.is("the third says more", one.grand(0, 0), 0b1000);
    }

    private static void promise19WithoutChildren() {
        FontList list = twoCouples();
        due.use(list, "F(n>0)");
        for (int w = 0; w < 4; w++) {
            due.is("no child", list.grand(1, w), 0);
        }
        list.parent(1, 1, 4);
        due.is("told without a child", list.grand(1, 1), 1 << 4);
    }

    private static void promise23Little() {
        FontList list = twoCouples();
        list.christening(0, 20, 0, -1, -1);
        list.christening(2, 30, 0, -1, -1);
        list.christening(0, 60, 0, -1, -1);
        due.use(list, "P(n=1)");
        list.weighs(10, 3);
        due.is("little(0)", list.little(0), 0);
        due.is("little(3): 2 costs 3", list.little(3), 0);
        due.is("little(4)", list.little(4), 0b10);
        // Without 0 the other one is a first one: from 5 to -10, and 3 for 0.
        due.is("little(18)", list.little(18), 0b10);
        due.is("little(19)", list.little(19), 0b11);
        due.is("little(1000)", list.little(1000), 0b11);
        due.is("little(1001)", list.little(1001), -1);
        due.is("little(-1)", list.little(-1), -1);
        list.weighs(10, 0);
        due.is("little(0) with ALONE 0", list.little(0), 0);
        due.is("little(1) with ALONE 0", list.little(1), 0b10);
    }

    private static void promise24Check() {
        FontList list = twoCouples();
        list.christening(0, 20, 0, -1, -1);
        list.christening(2, 21, 0, -1, -1);
        list.christening(3, 60, 0, -1, -1);
        due.is("no tape", list.check(), -2);
        Due.row(list, 0, 1, 6);
        due.is("right", list.check(), -1);
        due.is("the tape is empty", list.count(3), 0);
        Due.row(list, 1, 0, 6);
        due.is("as good, but not THE BEST", list.check(), 0);
        due.is("the tape is empty", list.count(3), 0);
        Due.row(list, 0, 6, 0);
        due.is("the first of two", list.check(), 1);
        Due.row(list, 0, 1, 255);
        due.is("a byte 255", list.check(), 2);
        for (int i = 3; i < 10; i++) {
            list.christening(0, 100, 0, -1, -1);
        }
        due.is("still empty", list.check(), -2);
        Due.row(list, 0, 1, 6, 6, 6, 6, 6, 6, 6, 5);
        due.is("the tenth", list.check(), 9);
        FontList none = new FontList();
        due.is("no CHRISTENING", none.check(), -1);
        Due.row(none, 9, 9);
        due.is("whatever the tape has", none.check(), -1);
        due.is("empty then", none.count(3), 0);
    }
}
