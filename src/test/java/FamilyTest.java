/** Promises 11 to 15: TIES, FAMILIES, their POINTS, and whose NAMES children should have. */
public final class FamilyTest extends Parish {
    private static final Due due = new Due();

    public static void main(String[] args) {
        promise11Tie();
        promise12FamilyYears();
        promise12FamilyNames();
        promise12NoSuchOnes();
        promise13Points();
        promise13ParentsNotTold();
        promise14Letters();
        promise14TheDeadOne();
        promise14Facts();
        promise14Reckoning();
        promise14AsMuchAsMatters();
        promise14and15NoSuchOnes();
        promise15Should();
        due.end("FamilyTest");
    }

    private static void promise11Tie() {
        FontList list = people();
        list.couple(PAUL, MARY, 20, 30);
        list.christening(MARK, 10, JOHN, -1, -1);
        list.christening(MARK, 9, JOHN, -1, -1);
        list.christening(MARK, 90, JOHN, MARY, -1);
        list.christening(MARK, 91, JOHN, MARY, -1);
        list.christening(MARK, 25, JOHN, ANNE, -1);
        list.christening(MARK, 25, PAUL, MARY, -1);
        int[] first = {1, 0, 1, 0, 0, 0};
        for (int i = 0; i < 6; i++) {
            due.is("tie(" + i + ", 0)", list.tie(i, 0), first[i]);
            due.is("tie(" + i + ", 1)", list.tie(i, 1), i == 5 ? 1 : 0);
        }
        due.is("tie(6, 0)", list.tie(6, 0), -1);
        due.is("tie(-1, 0)", list.tie(-1, 0), -1);
        due.is("tie(0, 2)", list.tie(0, 2), -1);
        due.is("tie(0, -1)", list.tie(0, -1), -1);
        due.is("tie(0, 6)", list.tie(0, 6), -1);
    }

    private static void promise12FamilyYears() {
        FontList list = people();
        child(list, JOHN, 20);
        child(list, PAUL, 21);
        child(list, MARK, 22);
        child(list, LUKE, 20);
        child(list, MARY, 20);
        list.christening(ANNE, 30, PAUL, -1, -1);
        due.is("none", list.family(0, 0), 1);
        due.is("20, 21", list.family(0, 0b11), 0);
        due.is("21, 22", list.family(0, 0b110), 0);
        due.is("20, 22", list.family(0, 0b101), 1);
        due.is("twins", list.family(0, 0b1001), 1);
        due.is("twins and 22", list.family(0, 0b1101), 1);
        due.is("three in a YEAR", list.family(0, 0b11001), 0);
        due.is("no TIE", list.family(0, 0b100000), 0);
        due.is("no TIE for one of them", list.family(0, 0b100001), 0);
        due.is("the later number, the earlier YEAR", list.family(0, 0b1010), 0);
    }

    private static void promise12FamilyNames() {
        FontList list = people();
        child(list, PAUL, 30);
        child(list, PAUL, 20);
        child(list, PAUL, 40);
        child(list, PAUL, 40);
        due.is("two of one NAME", list.family(0, 0b11), 0);
        list.died(0, 30);
        due.is("the younger one died", list.family(0, 0b11), 0);
        due.is("the elder one of two", list.family(0, 0b101), 1);
        list.died(1, 31);
        due.is("a YEAR too late", list.family(0, 0b11), 0);
        list.died(1, 30);
        due.is("in that YEAR", list.family(0, 0b11), 1);
        due.is("three one after another", list.family(0, 0b111), 1);
        due.is("twins of one NAME", list.family(0, 0b1100), 0);
        list.died(3, 40);
        due.is("the later number died", list.family(0, 0b1100), 0);
        list.died(2, 40);
        due.is("the earlier number died", list.family(0, 0b1100), 1);
        list.died(1, -1);
        due.is("not told", list.family(0, 0b11), 0);
    }

    private static void promise12NoSuchOnes() {
        FontList list = people();
        due.is("no CHRISTENING", list.family(0, 1), -1);
        child(list, PAUL, 20);
        due.is("family(1, 0)", list.family(1, 0), -1);
        due.is("family(-1, 0)", list.family(-1, 0), -1);
        due.is("family(0, 2)", list.family(0, 2), -1);
        due.is("family(0, 3)", list.family(0, 3), -1);
        due.is("family(0, -1)", list.family(0, -1), -1);
        due.is("family(0, MIN)", list.family(0, Integer.MIN_VALUE), -1);
        for (int k = 1; k < 10; k++) {
            child(list, PAUL, 20);
        }
        due.is("family(0, 512)", list.family(0, 512), 1);
        due.is("family(0, 1023)", list.family(0, 1023), 0);
        due.is("family(0, 1024)", list.family(0, 1024), -1);
    }

    private static void promise13Points() {
        FontList list = people();
        child(list, JOHN, 20);
        child(list, PAUL, 22);
        child(list, MARY, 24);
        due.is("no CUSTOM", list.points(0, 7), 0);
        due.use(list, "P(n=1);S(n=2);Q(n=1)");
        due.is("John 11, Paul FREE, Mary 15", list.points(0, 7), 26);
        due.is("Paul has not John's", list.points(0, 6), 5);
        list.weighs(100, 0);
        due.is("LOSS 100", list.points(0, 6), -85);
        due.is("none", list.points(0, 0), 0);
        due.is("no such COUPLE", list.points(1, 0), -1000000);
        due.is("no such set", list.points(0, 8), -1000000);
        due.is("a set below 0", list.points(0, -1), -1000000);
        child(list, MARK, 21);
        due.is("can't be", list.points(0, 9), -1000000);
    }

    private static void promise13ParentsNotTold() {
        FontList list = people();
        due.use(list, "F(n>0);f(n=1);m(n=2)");
        child(list, PAUL, 20);
        child(list, MARK, 30);
        due.is("Paul 12 - 10 or Mark 13 - 10", list.points(0, 3), 3);
        due.is("it is Mark's", list.should(0, 3, 0), MARK);
        list.weighs(0, 0);
        due.is("with LOSS 0", list.points(0, 3), 13);
        list.parent(0, 0, PAUL);
        due.is("told", list.points(0, 3), 12);
        list.parent(0, 0, LUKE);
        due.is("told, nobody's", list.points(0, 3), 0);
        list.parent(0, 0, -1);
        list.died(0, 25);
        child(list, PAUL, 40);
        list.weighs(10, 20);
        due.is("two Pauls 24 - 10", list.points(0, 7), 14);
        due.is("it is Paul's", list.should(0, 7, 1), PAUL);
        child(list, ANNE, 50);
        child(list, RUTH, 60);
        due.is("two mothers not told", list.points(0, 31), 14 + 16 + 17);
        FontList even = new FontList();
        even.name(0, 4);
        even.name(1, 4);
        even.name(0, 7);
        even.name(0, 7);
        even.couple(0, 1, 0, 99);
        even.christening(3, 10, 0, -1, -1);
        even.christening(2, 20, 0, -1, -1);
        due.use(even, "M(n>0)");
        due.is("of like ones the lowest NAME", even.should(0, 3, 0), 2);
        due.is("7 - 10", even.points(0, 3), -3);
    }

    private static void promise14Letters() {
        FontList list = people();
        list.christening(PAUL, 20, JOHN, MARY, LUKE);
        list.christening(ANNE, 30, JOHN, MARY, RUTH);
        child(list, MARK, 40);
        String all = "FfMmPQ";
        for (int k = 0; k < all.length(); k++) {
            due.use(list, all.charAt(k) + "(1=1)");
            boolean sons = k % 2 == 0;
            due.is(all.charAt(k) + " for a son", list.by(0, 7, 0), sons ? all.charAt(k) : 0);
            due.is(all.charAt(k) + " for a daughter", list.by(0, 7, 1), sons ? 0 : all.charAt(k));
        }
        due.use(list, "S(1=1)");
        due.is("a son's SPONSOR", list.should(0, 7, 0), LUKE);
        due.is("a daughter's SPONSOR", list.should(0, 7, 1), RUTH);
        due.is("no SPONSOR", list.by(0, 7, 2), 0);
        due.use(list, "D(1=1);S(1=1);f(1=1);F(1=1)");
        due.is("the first there is: S", list.by(0, 7, 0), 'S');
        due.is("the first there is: F", list.by(0, 7, 2), 'F');
        due.use(list, "F(1=2);P(1=1);M(1=1)");
        due.is("the first that holds", list.by(0, 7, 0), 'P');
        due.is("FREE", list.by(0, 7, 1), 0);
    }

    private static void promise14TheDeadOne() {
        FontList list = people();
        child(list, PAUL, 20);
        child(list, MARK, 30);
        child(list, ANNE, 40);
        child(list, LUKE, 50);
        due.use(list, "D(1=1)");
        due.is("nobody died", list.by(0, 15, 3), 0);
        list.died(0, 51);
        due.is("died too late", list.by(0, 15, 3), 0);
        list.died(0, 50);
        due.is("died in that YEAR", list.should(0, 15, 3), PAUL);
        due.is("not for a daughter", list.by(0, 15, 2), 0);
        due.is("not for him who came before", list.by(0, 15, 1), 0);
        list.died(1, 50);
        due.is("the last such one", list.should(0, 15, 3), MARK);
        due.is("not in this FAMILY", list.should(0, 13, 3), PAUL);
        list.died(1, -1);
        list.died(0, 30);
        child(list, PAUL, 44);
        due.is("one between has that NAME", list.by(0, 0b11011, 3), 0);
        due.is("he himself", list.should(0, 0b11011, 4), PAUL);
        due.is("his POINTS", list.points(0, 0b10001), 12);
        due.is("with Mark: he should have Paul's, too", list.points(0, 0b10011), 12 - 10);
        list.died(4, 45);
        due.is("the one between died, too", list.should(0, 0b11011, 3), PAUL);
        FontList twins = people();
        child(twins, PAUL, 20);
        child(twins, MARK, 20);
        twins.died(0, 20);
        due.use(twins, "D(1=1)");
        due.is("a twin that died", twins.should(0, 3, 1), PAUL);
        due.is("the elder twin", twins.by(0, 3, 0), 0);
        due.use(twins, "P(t=1)");
        due.is("the elder one is a twin", twins.by(0, 3, 0), 'P');
        due.is("the younger one is a twin", twins.by(0, 3, 1), 'P');
        due.is("alone it is none", twins.by(0, 2, 1), 0);
        child(twins, JOHN, 30);
        child(twins, LUKE, 40);
        twins.died(2, 35);
        due.use(twins, "D(1=1)");
        due.is("NAME 0 of the dead one", twins.should(0, 12, 3), JOHN);
        twins.died(0, -1);
        twins.died(1, 20);
        due.is("the younger twin died", twins.by(0, 3, 0), 0);
    }

    /** A FAMILY of six: Paul 20 (died 30), Anne 22, Mark 30 and Ruth 30, Luke 40 (number 0), Paul 44. */
    private static FontList six() {
        FontList list = people();
        child(list, LUKE, 40);
        child(list, PAUL, 20);
        child(list, ANNE, 22);
        child(list, MARK, 30);
        child(list, RUTH, 30);
        child(list, PAUL, 44);
        list.died(1, 30);
        list.died(2, 29);
        return list;
    }

    private static void fact(FontList list, char letter, int i, int want) {
        due.use(list, "P(" + letter + "=" + want + ");Q(" + letter + "=" + want + ")");
        due.is(letter + " of " + i + " is " + want, list.by(0, 63, i), list.look(i, 0) < MARY ? 'P' : 'Q');
        due.use(list, "P(!" + letter + "=" + want + ");Q(!" + letter + "=" + want + ")");
        due.is(letter + " of " + i + " is nothing else", list.by(0, 63, i), 0);
    }

    private static void promise14Facts() {
        int[][] want = {
            {3, 4, 0, 40, 30, 0, LUKE, 1, 6},
            {1, 0, 0, 20, 10, 0, PAUL, 0, 6},
            {1, 1, 1, 22, 12, 0, ANNE, 0, 6},
            {2, 2, 0, 30, 20, 1, MARK, 1, 6},
            {2, 3, 1, 30, 20, 1, RUTH, 1, 6},
            {4, 5, 0, 44, 34, 0, PAUL, 1, 6}};
        for (int i = 0; i < 6; i++) {
            FontList list = six();
            for (int k = 0; k < 9; k++) {
                fact(list, "nbxywtaec".charAt(k), i, want[i][k]);
            }
        }
    }

    private static void holds(String c, boolean want) {
        due.is(c, byAnOnlySon(c), want ? 'P' : 0);
    }

    private static void promise14Reckoning() {
        holds("2+3*4=14", true);
        holds("2*3+4=10", true);
        holds("10-3-2=5", true);
        holds("10-[3-2]=9", true);
        holds("100/10/5=2", true);
        holds("100/10*5=50", true);
        holds("17%10%4=3", true);
        holds("17%[10%4]=1", true);
        holds("[0-7]/2=0-3", true);
        holds("[0-7]%2=0-1", true);
        holds("7/[0-2]=0-3", true);
        holds("7%[0-2]=1", true);
        holds("99999*99999%10000=5409", true);
        holds("99999*99999/10000=14098*10+6", true);
        holds("99999*99999*2<0", true);
        holds("65536*32768<0", true);
        holds("65536*32768=[65536*32768]/[0-1]", true);
        holds("[65536*32768]%[0-1]=0", true);
        holds("65536*32768-1>0", true);
        holds("65536*65536=0", true);
        holds("7=1+1*[1+1*[1+1*[1+1*[1+1*[1+1*1]]]]]", true);
        holds("8=1+1*[1+1*[1+1*[1+1*[1+1*[1+1*2]]]]]", true);
        holds("1<1", false);
        holds("1>1", false);
        holds("1<2", true);
        holds("2>1", true);
        holds("0-1<1", true);
        holds("2<1", false);
        holds("1=1|1=2&1=2", true);
        holds("1=2&1=2|1=1", true);
        holds("1=2&(1=2|1=1)", false);
        holds("!1=2&1=1", true);
        holds("!1=2&1=2", false);
        holds("!(1=2&1=2)", true);
        holds("!!1=1", true);
        holds("!1<2", false);
        holds("!2>1", false);
        holds("!2<1", true);
        holds("!1>2", true);
        holds("!(1=2|1=1)", false);
        holds("1=2|1=2|1=1", true);
        holds("1=2|1=1|1=2", true);
        holds("1=1&1=1&1=2", false);
        holds("1=1&1=2&1=1", false);
        holds("(1=2|1=1)&(1=1|1=2)", true);
        holds("(1=1&1=2)|(1=2|1=1)", true);
    }

    private static void promise14AsMuchAsMatters() {
        holds("1/0=0", false);
        holds("1%0=0", false);
        holds("!1/0=0", false);
        holds("!(1/0=0)", false);
        holds("!!(1/0=0)", false);
        holds("1/0=1|1=1", false);
        holds("1=1|1/0=1", true);
        holds("1=2|1/0=1|1=1", false);
        holds("1=2&1/0=1|1=1", true);
        holds("1=1&1/0=1|1=1", false);
        holds("(1=1|1/0=1)&1=1", true);
        holds("!(1=2&1/0=1)", true);
        holds("1=1/b", false);
        holds("1=1/n", true);
        holds("0*[1/0]=0", false);
        holds("5%[n-1]=0|1=1", false);
        FontList list = people();
        child(list, PAUL, 20);
        due.use(list, "P(1/b=0|1=1);F(1=1)");
        due.is("the next CLAUSE is asked", list.by(0, 1, 0), 'F');
    }

    private static void promise14and15NoSuchOnes() {
        FontList list = people();
        child(list, PAUL, 20);
        child(list, PAUL, 22);
        due.use(list, "P(1=1)");
        int[][] wrong = {{1, 1, 0}, {-1, 1, 0}, {0, 4, 2}, {0, 4, 0}, {0, -1, 0}, {0, 3, 0}, {0, 1, 1}, {0, 2, 0},
            {0, 0, 0}, {0, 1, 2}, {0, 1, -1}, {0, 1, 32}, {0, 1, 31}, {0, 1, Integer.MIN_VALUE}};
        for (int[] w : wrong) {
            String of = "(" + w[0] + ", " + w[1] + ", " + w[2] + ")";
            due.is("by" + of, list.by(w[0], w[1], w[2]), -1);
            due.is("should" + of, list.should(w[0], w[1], w[2]), -1);
        }
        due.is("by(0, 2, 1)", list.by(0, 2, 1), 'P');
        due.is("should(0, 2, 1)", list.should(0, 2, 1), JOHN);
    }

    private static void promise15Should() {
        FontList list = people();
        list.christening(PAUL, 20, JOHN, MARY, LUKE);
        list.christening(ANNE, 30, JOHN, MARY, RUTH);
        due.is("no CUSTOM", list.should(0, 3, 0), -2);
        list.parent(0, 0, LUKE);
        list.parent(0, 1, RUTH);
        list.parent(0, 2, MARK);
        list.parent(0, 3, ANNE);
        int[][] want = {{LUKE, RUTH}, {MARK, ANNE}, {JOHN, MARY}};
        String[] texts = {"F(1=1);f(1=1)", "M(1=1);m(1=1)", "P(1=1);Q(1=1)"};
        for (int k = 0; k < 3; k++) {
            due.use(list, texts[k]);
            due.is(texts[k] + " for a son", list.should(0, 3, 0), want[k][0]);
            due.is(texts[k] + " for a daughter", list.should(0, 3, 1), want[k][1]);
        }
        due.use(list, "F(1=1)");
        due.is("a daughter is FREE", list.should(0, 3, 1), -2);
        list.parent(0, 0, -1);
        due.is("not told: the son's own", list.should(0, 3, 0), PAUL);
    }
}
