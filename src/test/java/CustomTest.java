/** Promises 8 to 10: the tape, the TEXTS of CUSTOMS with their FAULTS, and THE CUSTOM. */
public final class CustomTest {
    private static final Due due = new Due();

    public static void main(String[] args) {
        promise8Feed();
        promise9WhatStands();
        promise9Faults();
        promise9SixthDigit();
        promise9Clauses();
        promise9Open();
        promise9WhatIsRefused();
        promise10Customs();
        due.end("CustomTest");
    }

    private static void text(String text, int want) {
        due.is(text, Due.custom(new FontList(), 0, text), want);
    }

    private static void promise8Feed() {
        FontList list = new FontList();
        for (int k = 1; k <= 10; k++) {
            due.is("feed " + k, list.feed(k, k, k, k, k), 20 * k);
        }
        due.is("more than 200 bytes", list.feed(1, 2, 3, 4, 5), -1);
        due.is("still 200", list.count(3), 200);
        due.is("200 bytes begin with a 0", list.custom(0, 160), -1000);
        due.is("empty", list.count(3), 0);
        FontList other = new FontList();
        // P(n=1)&.. in the order of bytes, the highest of each int first; the rest comes behind.
        other.feed(0x50286e3d, 0x317c7928, 0, 0, 0);
        due.is("the ( that can't stand there", other.custom(0, 8), -1007);
        other.feed(0x50286e3d, 0x3131317c, 0x623d3226, 0x783d307c, 0x743d3126);
        other.feed(0x633d3526, 0x653d3029, 0, 0, 0);
        due.is("two feeds, one TEXT", other.custom(0, 28), 1);
        other.feed(0xff000000, 0, 0, 0, 0);
        due.is("a byte 255", other.custom(0, 1), -1000);
    }

    private static void promise9WhatStands() {
        text("P(n=1)", 1);
        for (char letter : "FfMmPQSD".toCharArray()) {
            text(letter + "(1=1)", 1);
        }
        for (char fact : "nbxywtaec".toCharArray()) {
            text("P(" + fact + "=1)", 1);
        }
        text("F(n<1|n>2|n=3);f(b=0&x=0&!t=1)", 2);
        text("D((n=1));S(!(n=1)&!!b=2)", 2);
        text("P([n]=[[1+2]*3])", 1);
        text("P(1+2-3*4/5%6=99999)", 1);
        text("P(00000=0)", 1);
        String longest = "P(" + Due.times("1+", 77) + "1=1)";
        due.is("a TEXT of 160 bytes is built", longest.length(), 160);
        text(longest, 1);
    }

    private static void promise9Faults() {
        text("n(1=1)", -1000);
        text("(1=1)", -1000);
        text(" P(1=1)", -1000);
        text("P (1=1)", -1001);
        text("P(1 =1)", -1003);
        text("P[1=1]", -1001);
        text("P()", -1002);
        text("P(1)", -1003);
        text("P(1=)", -1004);
        text("P(1==1)", -1004);
        text("P(1=1=1)", -1005);
        text("P(1=1", -1005);
        text("P(1=1]", -1005);
        text("P(1=1))", -1006);
        text("P(1=1);", -1007);
        text("P(1=1);;P(1=1)", -1007);
        text("P(1=1)P(1=1)", -1006);
        text("P(1=1&)", -1006);
        text("P(1=1|)", -1006);
        text("P(|1=1)", -1002);
        text("P(1=1&&1=1)", -1006);
        text("P((1)=1)", -1004);
        text("P((1=1)=1)", -1007);
        text("P([1=1])", -1004);
        text("P(!)", -1003);
        text("P(-1=1)", -1002);
        text("P(1+=1)", -1004);
        text("P(1+-1=1)", -1004);
        text("P(1*(1)=1)", -1004);
        text("P(1+!1=1)", -1004);
        text("P([1=1)", -1004);
        text("P([]=1)", -1003);
        text("P(nn=1)", -1003);
        text("P(n1=1)", -1003);
        text("P(1n=1)", -1003);
        text("P(d=1)", -1002);
        text("P(N=1)", -1002);
        text("P(1=1)&Q(1=1)", -1006);
        text("P", -1001);
        text("P(", -1002);
        text("P(n=1)\n", -1006);
        text("P(" + (char) 233 + "=1)", -1002);
        text("P(" + (char) 0 + "=1)", -1002);
        text("P(" + Due.times("1+", 78) + "1=", -1160);
        due.is("the end of part of a tape", firstOf("P(n=1)", 5), -1005);
        due.is("the end within a number", firstOf("P(n=11)", 5), -1005);
    }

    private static int firstOf(String text, int n) {
        FontList list = new FontList();
        Due.feed(list, text);
        return list.custom(0, n);
    }

    private static void promise9SixthDigit() {
        text("P(n=99999)", 1);
        text("P(n=999999)", -2009);
        text("P(000000=n)", -2007);
        text("P([123456]=n)", -2008);
        text("P(12345678=n)", -2007);
        text("P(12345+123456=n)", -2013);
        text("P(12345x=n)", -1007);
    }

    private static void promise9Clauses() {
        String twelve = Due.times("P(n=1);", 11) + "Q(n=1)";
        text(twelve, 12);
        text(twelve + ";S(n=1)", -4084);
        text(twelve + ";S", -4084);
        text(twelve + ";x(n=1)", -1084);
        text(twelve + ";", -1084);
        text(twelve + ";P(n=1);P(n=1)", -4084);
    }

    private static void promise9Open() {
        text("P(((((( n=1))))))", -1007);
        text("P((((((n=1))))))", 1);
        text("P(((((((n=1)))))))", -5007);
        text("P(!!!!!n=1)", 1);
        text("P(!!!!!!n=1)", -5007);
        text("P([[[[[n]]]]]=1)", 1);
        text("P([[[[[[n]]]]]]=1)", -5007);
        text("P(!(!([n]=1)))", 1);
        text("P(!(!([[n]]=1)))", -5007);
        text("P(!!!!!n=1&!!!!!n=1|!!!!!n=2)", 1);
        text("P(!!!!!n=1&!!!!!!n=1)", -5016);
        text("P(!(n=1&!(n=1)&!(n=2)&!([n]=3)&!([[n]]=3)))", -5034);
        text("P([n]=[n]&[n]+[n]*[n]=[n]&([n]=1)&([n]=1)&([n]=1))", 1);
        text("P(!!!!!!", -5007);
        // what can't stand there is no seventh one
        text("P(!!!!!n(=1)", -1008);
        text("P(!!!!![n]=1)", -5007);
        text("P(((((([n]=1))))))", -5007);
    }

    private static void promise9WhatIsRefused() {
        FontList list = new FontList();
        due.is("a TEXT", Due.custom(list, 2, "P(n=1);Q(n=1)"), 2);
        Due.feed(list, "P(n=1)");
        due.is("CUSTOM 4", list.custom(4, 6), -1);
        due.is("CUSTOM -1", list.custom(-1, 6), -1);
        due.is("0 bytes", list.custom(2, 0), -1);
        due.is("-1 bytes", list.custom(2, -1), -1);
        due.is("21 bytes", list.custom(2, 21), -1);
        due.is("the tape stays", list.count(3), 20);
        for (int k = 0; k < 8; k++) {
            Due.feed(list, " ");
        }
        due.is("180 bytes", list.count(3), 180);
        due.is("161 bytes", list.custom(2, 161), -1);
        due.is("the tape stays", list.count(3), 180);
        due.is("the TEXT stays", list.count(12), 2);
        due.is("160 bytes with a blank", list.custom(2, 160), -1006);
        due.is("the tape is empty", list.count(3), 0);
        due.is("the TEXT stays", list.count(12), 2);
        due.is("in its place", Due.custom(list, 2, "S(n=1)"), 1);
        due.is("one CLAUSE", list.count(12), 1);
        due.is("another one", Due.custom(list, 1, "P(n=1);P(n=2);P(n=3)"), 3);
        due.is("three", list.count(11), 3);
        due.is("one still", list.count(12), 1);
        FontList used = family("P(n=1)");
        due.is("by the TEXT", used.by(0, 1, 0), 'P');
        due.is("a FAULT", Due.custom(used, 0, "S(n=1);"), -1007);
        due.is("by the TEXT before", used.by(0, 1, 0), 'P');
        due.is("the next TEXT", Due.custom(used, 0, "S(n=2)"), 1);
        due.is("by that", used.by(0, 1, 0), 0);
    }

    /** One son in year 20 of a COUPLE wed in 10, with a SPONSOR. */
    private static FontList family(String text) {
        FontList list = new FontList();
        list.name(0, 5);
        list.name(1, 7);
        list.couple(0, 1, 10, 40);
        list.christening(0, 20, 0, 1, 0);
        Due.custom(list, 0, text);
        list.customs(0, 0, 0);
        return list;
    }

    private static void promise10Customs() {
        FontList list = family("P(n=1)");
        Due.custom(list, 1, "S(n=1)");
        due.yes("ahead of 21", list.customs(0, 1, 21));
        due.is("A in 20", list.by(0, 1, 0), 'P');
        due.yes("ahead of 20", list.customs(0, 1, 20));
        due.is("B from 20 on", list.by(0, 1, 0), 'S');
        due.yes("ahead of 0", list.customs(0, 1, 0));
        due.is("B always", list.by(0, 1, 0), 'S');
        due.yes("ahead of 300", list.customs(0, 1, 300));
        due.is("A always", list.by(0, 1, 0), 'P');
        due.no("A no such one", list.customs(4, 1, 5));
        due.no("A below", list.customs(-1, 1, 5));
        due.no("B no such one", list.customs(0, 4, 5));
        due.no("B below", list.customs(0, -1, 5));
        due.no("a YEAR above 300", list.customs(0, 1, 301));
        due.no("a YEAR below 0", list.customs(0, 1, -1));
        due.is("A as before", list.count(4), 0);
        due.is("B as before", list.count(5), 1);
        due.is("the YEAR as before", list.count(6), 300);
        due.yes("one that is not told", list.customs(3, 1, 21));
        due.is("FREE", list.by(0, 1, 0), 0);
        due.is("no POINTS", list.points(0, 1), 0);
        Due.custom(list, 3, "P(n=1)");
        due.is("told later", list.by(0, 1, 0), 'P');
    }
}
