/** Promises 1 to 7, 25 and 26: what is told of NAMES, COUPLES and CHRISTENINGS, and looked at. */
public final class BooksTest {
    private static final Due due = new Due();

    public static void main(String[] args) {
        promise1NewObject();
        promise2Name();
        promise3Couple();
        promise4Parent();
        promise5Christening();
        promise6Died();
        promise7Weighs();
        promise25Look();
        promise26Count();
        due.end("BooksTest");
    }

    private static FontList small() {
        FontList list = new FontList();
        list.name(0, 5);
        list.name(1, 7);
        list.name(0, 9);
        list.name(1, 11);
        list.couple(0, 1, 10, 40);
        return list;
    }

    private static void promise1NewObject() {
        FontList list = new FontList();
        due.is("NONE", FontList.NONE, -1);
        for (int what = 0; what < 4; what++) {
            due.is("new: count(" + what + ")", list.count(what), 0);
        }
        for (int what = 4; what < 7; what++) {
            due.is("new: count(" + what + ")", list.count(what), -1);
        }
        for (int k = 0; k < 4; k++) {
            due.is("new: CLAUSES of " + k, list.count(10 + k), 0);
        }
        due.is("new: ways(0)", list.ways(0), 0);
        due.is("new: ways(1)", list.ways(1), 1);
        due.is("new: ways(2)", list.ways(2), 1);
        due.is("new: ways(3)", list.ways(3), -1);
        FontList other = small();
        other.christening(0, 12, 0, -1, -1);
        due.is("ALONE is 20 at first", other.ways(3), 20);
        Due.custom(other, 0, "M(n=1);P(n>0)");
        other.parent(0, 2, 2);
        other.customs(0, 0, 0);
        due.is("LOSS is 10 at first", other.points(0, 1), -10);
    }

    private static void promise2Name() {
        FontList list = new FontList();
        int[][] wrong = {{-1, 5}, {2, 5}, {0, 0}, {0, 101}, {1, -5}, {Integer.MAX_VALUE, 1}, {0, Integer.MIN_VALUE}};
        for (int[] w : wrong) {
            due.is("name(" + w[0] + ", " + w[1] + ")", list.name(w[0], w[1]), -1);
        }
        due.is("no NAME by then", list.count(0), 0);
        for (int k = 0; k < 16; k++) {
            due.is("NAME " + k, list.name(k % 2, k == 0 ? 1 : 100), k);
        }
        due.is("a 17th NAME", list.name(0, 5), -1);
        due.is("NAMES", list.count(0), 16);
        due.is("the 16th is a woman's", list.couple(0, 15, 0, 0), 0);
        due.is("and no man's", list.couple(15, 15, 0, 0), -1);
    }

    private static void promise3Couple() {
        FontList list = small();
        int[][] wrong = {{1, 1, 0, 9}, {0, 0, 0, 9}, {4, 1, 0, 9}, {-1, 1, 0, 9}, {0, 4, 0, 9}, {0, -1, 0, 9},
            {0, 1, -1, 9}, {0, 1, 300, 300}, {0, 1, 9, 8}, {0, 1, 9, 300}, {0, 1, 0, Integer.MAX_VALUE},
            {0, 1, Integer.MIN_VALUE, 5}};
        for (int[] w : wrong) {
            due.is("couple of wrong ones", list.couple(w[0], w[1], w[2], w[3]), -1);
        }
        due.is("still one COUPLE", list.count(1), 1);
        due.is("a year alone", list.couple(2, 3, 299, 299), 1);
        due.is("all years", list.couple(2, 3, 0, 299), 2);
        due.is("COUPLE 3", list.couple(0, 1, 5, 6), 3);
        due.is("COUPLE 4", list.couple(0, 1, 5, 6), 4);
        due.is("COUPLE 5", list.couple(0, 1, 5, 6), 5);
        due.is("a seventh COUPLE", list.couple(0, 1, 5, 6), -1);
        due.is("six COUPLES", list.count(1), 6);
        for (int w = 0; w < 4; w++) {
            due.is("no parent is told at first", list.grand(2, w), 0);
        }
    }

    private static void promise4Parent() {
        FontList list = small();
        due.yes("his father", list.parent(0, 0, 2));
        due.yes("his mother", list.parent(0, 1, 3));
        due.yes("her father", list.parent(0, 2, 0));
        due.yes("her mother", list.parent(0, 3, 1));
        due.no("his father a woman", list.parent(0, 0, 1));
        due.no("his mother a man", list.parent(0, 1, 0));
        due.no("her father a woman", list.parent(0, 2, 3));
        due.no("her mother a man", list.parent(0, 3, 2));
        due.no("no such COUPLE", list.parent(1, 0, 0));
        due.no("no such COUPLE below", list.parent(-1, 0, 0));
        due.no("no such parent", list.parent(0, 4, 0));
        due.no("no such parent below", list.parent(0, -1, 1));
        due.no("no such NAME", list.parent(0, 0, 4));
        due.no("no such NAME below", list.parent(0, 0, -2));
        due.is("what was refused changed nothing (0)", list.grand(0, 0), 1 << 2);
        due.is("what was refused changed nothing (1)", list.grand(0, 1), 1 << 3);
        due.is("what was refused changed nothing (2)", list.grand(0, 2), 1);
        due.is("what was refused changed nothing (3)", list.grand(0, 3), 1 << 1);
        due.yes("told anew", list.parent(0, 0, 0));
        due.is("the new one", list.grand(0, 0), 1);
        due.yes("not told any more", list.parent(0, 0, -1));
        due.is("none", list.grand(0, 0), 0);
        due.no("NONE of no such parent", list.parent(0, 4, -1));
    }

    private static void promise5Christening() {
        FontList list = small();
        int[][] wrong = {{4, 5, 0, -1, -1}, {-1, 5, 0, -1, -1}, {0, -1, 0, -1, -1}, {0, 300, 0, -1, -1},
            {0, 5, 1, -1, -1}, {0, 5, 4, -1, -1}, {0, 5, -1, -1, -1}, {0, 5, 0, 0, -1}, {0, 5, 0, 4, -1},
            {0, 5, 0, -2, -1}, {0, 5, 0, -1, 1}, {1, 5, 0, -1, 0}, {0, 5, 0, -1, 4}, {0, 5, 0, -1, -2}};
        for (int[] w : wrong) {
            due.is("christening of wrong ones", list.christening(w[0], w[1], w[2], w[3], w[4]), -1);
        }
        due.is("none by then", list.count(2), 0);
        due.is("a son in year 0", list.christening(0, 0, 0, -1, -1), 0);
        due.is("a daughter in 299", list.christening(1, 299, 2, 3, 3), 1);
        for (int k = 2; k < 10; k++) {
            due.is("CHRISTENING " + k, list.christening(0, k, 0, 1, 2), k);
        }
        due.is("an 11th CHRISTENING", list.christening(0, 5, 0, -1, -1), -1);
        due.is("ten", list.count(2), 10);
    }

    private static void promise6Died() {
        FontList list = small();
        list.christening(0, 12, 0, -1, -1);
        due.no("no such one", list.died(1, 20));
        due.no("no such one below", list.died(-1, 20));
        due.no("NONE of no such one", list.died(1, -1));
        due.no("ahead of its own YEAR", list.died(0, 11));
        due.no("beyond all YEARS", list.died(0, 300));
        due.no("below NONE", list.died(0, -2));
        due.is("none told by then", list.look(0, 5), -1);
        due.yes("in its own YEAR", list.died(0, 12));
        due.is("told", list.look(0, 5), 12);
        due.yes("in the last YEAR", list.died(0, 299));
        due.no("refused", list.died(0, 3));
        due.is("as before", list.look(0, 5), 299);
        due.yes("not told", list.died(0, -1));
        due.is("none", list.look(0, 5), -1);
    }

    private static void promise7Weighs() {
        FontList list = small();
        list.christening(0, 12, 0, -1, -1);
        list.parent(0, 0, 2);
        Due.custom(list, 0, "F(n>0)");
        list.customs(0, 0, 0);
        due.yes("the greatest", list.weighs(100, 1000));
        due.is("LOSS 100", list.points(0, 1), -100);
        due.is("ALONE 1000", list.ways(3), 900);
        due.no("LOSS 101", list.weighs(101, 0));
        due.no("LOSS -1", list.weighs(-1, 0));
        due.no("ALONE 1001", list.weighs(0, 1001));
        due.no("ALONE -1", list.weighs(0, -1));
        due.is("LOSS as before", list.points(0, 1), -100);
        due.is("ALONE as before", list.ways(3), 900);
        due.yes("the least", list.weighs(0, 0));
        due.is("LOSS 0", list.points(0, 1), 0);
        due.is("no GAP", list.ways(3), -1);
    }

    private static void promise25Look() {
        FontList list = small();
        list.christening(0, 12, 2, 3, 2);
        list.christening(1, 13, 0, -1, -1);
        list.died(0, 17);
        int[] first = {0, 12, 2, 3, 2, 17};
        int[] second = {1, 13, 0, -1, -1, -1};
        for (int what = 0; what < 6; what++) {
            due.is("look(0, " + what + ")", list.look(0, what), first[what]);
            due.is("look(1, " + what + ")", list.look(1, what), second[what]);
        }
        due.is("look(0, 6)", list.look(0, 6), -1);
        due.is("look(0, -1)", list.look(0, -1), -1);
        due.is("look(2, 0)", list.look(2, 0), -1);
        due.is("look(-1, 0)", list.look(-1, 0), -1);
    }

    private static void promise26Count() {
        FontList list = small();
        list.christening(0, 12, 0, -1, -1);
        Due.custom(list, 3, "P(n=1);Q(n=1);S(1=1)");
        list.customs(2, 3, 300);
        Due.feed(list, "x");
        int[] want = {4, 1, 1, 20, 2, 3, 300, -1, -1, -1, 0, 0, 0, 3, -1};
        for (int what = 0; what < want.length; what++) {
            due.is("count(" + what + ")", list.count(what), want[what]);
        }
        due.is("count(-1)", list.count(-1), -1);
        due.is("count(MAX)", list.count(Integer.MAX_VALUE), -1);
        due.is("count(MIN)", list.count(Integer.MIN_VALUE), -1);
    }
}
