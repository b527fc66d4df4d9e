/** Terms, part 2: each sentence on the TEXTS of CUSTOMS that names a boundary case. */
public final class TextEdgesTest extends Parish {
    private static final Due due = new Due();
    private static final String LETTERS = "FfMmPQSD";
    private static final String FACTS = "nbxywtaec";
    private static final String DIGITS = "0123456789";
    private static final String SIGNS = "+-*/%";

    public static void main(String[] args) {
        customsAreFour();
        textsHave160Bytes();
        textsHaveNoBlanks();
        clausesAreTwelve();
        clausesAreLettersWithC();
        theFirstClauseIsTaken();
        lettersForSonsAndDaughters();
        sponsorsMustBeTold();
        theDeadOneDiedInTime();
        theDeadOneIsOfItsSex();
        theDeadOnesNameIsNotTaken();
        theLastDeadOneIsTaken();
        withoutOneItIsFree();
        partsAndPieces();
        numbersHaveFiveDigits();
        fromTheLeftOn();
        factsOfTheFirstAndTheTenth();
        factsOfTwins();
        factsOfTheDead();
        reckonedWith32Bits();
        dividedByNothing();
        asMuchAsMatters();
        faultsFromTheLeft();
        faultOneAtEverySign();
        faultTwo();
        faultFour();
        faultFive();
        faultFiveAndWhatIsClosed();
        customsChangeInAYear();
        atFirstAllAreFree();
        due.end("TextEdgesTest");
    }

    private static void text(String text, int want) {
        due.is(text, Due.custom(new FontList(), 0, text), want);
    }

    private static void holds(String c) {
        due.is(c, byAnOnlySon(c), 'P');
    }

    private static void holdsNot(String c) {
        due.is(c, byAnOnlySon(c), 0);
        due.is("it has no FAULT: " + c, Due.custom(new FontList(), 0, "P(" + c + ")"), 1);
    }

    private static void customsAreFour() {
        due.sentence("CUSTOMS 0 to 3");
        FontList list = new FontList();
        for (int k = 0; k < 4; k++) {
            due.is("not told", list.count(10 + k), 0);
            due.is("told", Due.custom(list, k, "P(n=1)" + Due.times(";P(n=1)", k)), k + 1);
        }
        for (int k = 0; k < 4; k++) {
            due.is("each has its own", list.count(10 + k), k + 1);
        }
        for (int k : new int[] {-1, 4, Integer.MIN_VALUE, Integer.MAX_VALUE}) {
            due.is("CUSTOM " + k, Due.custom(list, k, "P(n=1)"), -1);
        }
    }

    private static void textsHave160Bytes() {
        due.sentence("a TEXT of at most 160 bytes");
        String longest = "P(" + Due.times("1+", 76) + "11=1)" + ";";
        due.is("159 and a ;", longest.length(), 160);
        text(longest, -1160);
        text("P(" + Due.times("1+", 77) + "1=1)", 1);
        text("P(" + Due.times("1+", 76) + "123=1)", 1);
        FontList list = new FontList();
        Due.feed(list, "P(" + Due.times("1+", 77) + "11=1)");
        due.is("161 bytes on the tape", list.custom(0, 161), -1);
        due.is("the tape stays", list.count(3), 180);
        due.is("of which 160 want a )", list.custom(0, 160), -1160);
    }

    private static void textsHaveNoBlanks() {
        due.sentence("no blanks");
        String text = "P(!(n=1)&[b+2]*3<44);Q(1=1)";
        for (int at = 0; at <= text.length(); at++) {
            text(text.substring(0, at) + " " + text.substring(at), -1000 - at);
        }
        text(text, 2);
        text("P(n=1\t)", -1005);
        text("P(n=1)\n", -1006);
    }

    private static void clausesAreTwelve() {
        due.sentence("CLAUSES (12 at most) with a ; (59) between two");
        for (int clauses = 1; clauses <= 12; clauses++) {
            text("Q(n=1)" + Due.times(";Q(n=1)", clauses - 1), clauses);
        }
        text("Q(n=1)" + Due.times(";Q(n=1)", 12), -4084);
        text(";Q(n=1)", -1000);
        text("Q(n=1);", -1007);
        text("Q(n=1);;Q(n=1)", -1007);
        text("Q(n=1):Q(n=1)", -1006);
        text("Q(n=1)Q(n=1)", -1006);
        text(";", -1000);
    }

    private static void clausesAreLettersWithC() {
        due.sentence("a letter and (C): F father's father, f father's mother, M mother's father, m mother's mother,"
            + " P father, Q mother, S the SPONSOR, D the dead one");
        for (char letter = 0; letter < 256; letter++) {
            text(letter + "(n=1)", LETTERS.indexOf(letter) >= 0 ? 1 : -1000);
        }
        text("P", -1001);
        text("P()", -1002);
        text("Pn=1", -1001);
        text("PQ(n=1)", -1001);
    }

    private static void theFirstClauseIsTaken() {
        due.sentence("For a child the first CLAUSE for which C holds and whose one there is");
        FontList list = people();
        list.christening(PAUL, 20, JOHN, MARY, LUKE);
        due.use(list, Due.times("P(n=2);", 11) + "S(n=1)");
        due.is("the twelfth", list.by(0, 1, 0), 'S');
        due.use(list, "S(n=1);P(n=1);F(n=1)");
        due.is("the first of three", list.by(0, 1, 0), 'S');
        due.use(list, "D(n=1);Q(n=1);f(n=1);P(n=2);M(n=1);S(n=1)");
        due.is("the first that is there and holds", list.by(0, 1, 0), 'M');
    }

    private static void lettersForSonsAndDaughters() {
        due.sentence("F, M, P for sons, f, m, Q for daughters");
        FontList list = people();
        child(list, PAUL, 20);
        child(list, ANNE, 30);
        for (char letter : "FMP".toCharArray()) {
            due.use(list, letter + "(1=1)");
            due.is("for a son", list.by(0, 3, 0), letter);
            due.is("not for a daughter", list.by(0, 3, 1), 0);
        }
        for (char letter : "fmQ".toCharArray()) {
            due.use(list, letter + "(1=1)");
            due.is("not for a son", list.by(0, 3, 0), 0);
            due.is("for a daughter", list.by(0, 3, 1), letter);
        }
    }

    private static void sponsorsMustBeTold() {
        due.sentence("S if a SPONSOR is told");
        FontList list = people();
        list.christening(PAUL, 20, JOHN, MARY, JOHN);
        list.christening(ANNE, 30, JOHN, MARY, ANNE);
        child(list, MARK, 40);
        due.use(list, "S(1=1)");
        due.is("NAME 0", list.by(0, 7, 0), 'S');
        due.is("John's", list.should(0, 7, 0), JOHN);
        due.is("the child's own", list.should(0, 7, 1), ANNE);
        due.is("not told", list.by(0, 7, 2), 0);
        due.is("16 for Anne, 10 less for Paul", list.points(0, 7), 6);
    }

    private static void theDeadOneDiedInTime() {
        due.sentence("D if an elder child of its SEX in the FAMILY DIED in this one's YEAR at the latest");
        FontList list = people();
        child(list, PAUL, 20);
        child(list, MARK, 30);
        due.use(list, "D(1=1)");
        due.is("none told", list.by(0, 3, 1), 0);
        list.died(0, 31);
        due.is("a YEAR too late", list.by(0, 3, 1), 0);
        list.died(0, 30);
        due.is("in that YEAR", list.by(0, 3, 1), 'D');
        list.died(0, 20);
        due.is("in its own YEAR", list.should(0, 3, 1), PAUL);
        due.is("it is not in the FAMILY", list.by(0, 2, 1), 0);
        list.died(0, -1);
        list.died(1, 30);
        due.is("a younger one", list.by(0, 3, 0), 0);
        due.is("it itself", list.by(0, 3, 1), 0);
    }

    private static void theDeadOneIsOfItsSex() {
        due.sentence("an elder child of its SEX in the FAMILY");
        FontList list = people();
        child(list, ANNE, 20);
        child(list, PAUL, 30);
        child(list, MARK, 30);
        child(list, RUTH, 40);
        for (int i = 0; i < 3; i++) {
            list.died(i, 30);
        }
        due.use(list, "D(1=1)");
        due.is("a son behind a daughter", list.by(0, 15, 1), 0);
        due.is("a son behind his TWIN", list.should(0, 15, 2), PAUL);
        due.is("a daughter behind two sons", list.should(0, 15, 3), ANNE);
    }

    private static void theDeadOnesNameIsNotTaken() {
        due.sentence("no child between them has that one's NAME");
        FontList list = people();
        child(list, PAUL, 20);
        child(list, PAUL, 30);
        child(list, MARK, 40);
        child(list, PAUL, 50);
        list.died(0, 21);
        due.use(list, "D(1=1)");
        due.is("he has it himself", list.should(0, 0b0011, 1), PAUL);
        due.is("one between has it", list.by(0, 0b0111, 2), 0);
        due.is("without him between", list.should(0, 0b0101, 2), PAUL);
        due.is("one behind has it", list.should(0, 0b1101, 2), PAUL);
        list.died(1, 40);
        due.is("he between DIED, too", list.should(0, 0b0111, 2), PAUL);
        list.died(1, 41);
        due.is("a YEAR too late", list.by(0, 0b0111, 2), 0);
    }

    private static void theLastDeadOneIsTaken() {
        due.sentence("(the last such one)");
        FontList list = people();
        child(list, PAUL, 20);
        child(list, LUKE, 30);
        child(list, MARK, 40);
        list.died(0, 39);
        list.died(1, 31);
        due.use(list, "D(1=1)");
        due.is("the last child, not the last death", list.should(0, 7, 2), LUKE);
        list.died(1, 41);
        due.is("the last of those that DIED in time", list.should(0, 7, 2), PAUL);
        FontList zero = people();
        child(zero, JOHN, 20);
        child(zero, MARK, 30);
        zero.died(0, 25);
        due.use(zero, "D(1=1)");
        due.is("NAME 0", zero.should(0, 3, 1), JOHN);
        due.is("10 less", zero.points(0, 3), -10);
    }

    private static void withoutOneItIsFree() {
        due.sentence("That is whose NAME it should have; without one it is FREE.");
        FontList list = people();
        child(list, PAUL, 20);
        due.use(list, "P(n=2)");
        due.is("by nothing", list.by(0, 1, 0), 0);
        due.is("FREE", list.should(0, 1, 0), -2);
        due.is("no POINTS", list.points(0, 1), 0);
        due.use(list, "P(n=1)");
        due.is("NAME 0 is not FREE", list.should(0, 1, 0), JOHN);
        due.is("LOSS", list.points(0, 1), -10);
    }

    private static void partsAndPieces() {
        due.sentence("PARTS with a | between two, one of which must hold; a PART: PIECES with an & between two,"
            + " all of which must");
        String[] some = {"1=2", "1=2", "1=2", "1=2"};
        holdsNot(String.join("|", some));
        for (int k = 0; k < 4; k++) {
            some[k] = "1=1";
            holds(String.join("|", some));
            some[k] = "1=2";
        }
        String[] all = {"1=1", "1=1", "1=1", "1=1"};
        holds(String.join("&", all));
        for (int k = 0; k < 4; k++) {
            all[k] = "1=2";
            holdsNot(String.join("&", all));
            all[k] = "1=1";
        }
        holds("1=2&1=2|1=1&1=1");
        holdsNot("1=2&1=1|1=1&1=2");
        holdsNot("(1=1|1=1)&(1=2|1=2)");
    }

    private static void numbersHaveFiveDigits() {
        due.sentence("a number of one to five digits");
        holds("0=00000");
        holds("7=00007");
        holds("99999=99998+1");
        holds("99999>99998");
        holds("10000=100*100");
        text("P(n=100000)", -2009);
        text("P(n=000000)", -2009);
        text("P(n=)", -1004);
    }

    private static void fromTheLeftOn() {
        due.sentence("a TERM: FACTORS with one of * / % between two; from the left on");
        holds("9-5-3=1");
        holds("9-5+3=7");
        holds("8/4/2=1");
        holds("8/4*2=4");
        holds("7*3%4=1");
        holds("7%4*3=9");
        holds("9/2*2=8");
        holds("1+2*3-4/2=5");
        holds("[1+2]*[3-4]/2=0-1");
    }

    private static void fact(FontList list, int set, int i, char fact, int want) {
        due.use(list, "P(" + fact + "=" + want + ");Q(" + fact + "=" + want + ")");
        due.yes(fact + " of " + i + " is " + want, list.by(0, set, i) > 0);
        due.use(list, "P(!" + fact + "=" + want + ");Q(!" + fact + "=" + want + ")");
        due.is(fact + " of " + i + " is nothing but " + want, list.by(0, set, i), 0);
    }

    private static void factsOfTheFirstAndTheTenth() {
        due.sentence("n its number among children of its SEX in the FAMILY (1 on), b how many children are ahead of it,"
            + " x its SEX, y its YEAR, w YEARS since they WED");
        FontList list = tenSons();
        int[] first = {1, 0, 0, 281, 281, 0, 9, 0, 10};
        int[] tenth = {10, 9, 0, 299, 299, 0, 0, 9, 10};
        int[] alone = {1, 0, 0, 299, 299, 0, 0, 0, 1};
        for (int k = 0; k < FACTS.length(); k++) {
            fact(list, 1023, 0, FACTS.charAt(k), first[k]);
            fact(list, 1023, 9, FACTS.charAt(k), tenth[k]);
            fact(list, 512, 9, FACTS.charAt(k), alone[k]);
        }
        FontList zero = new FontList();
        for (int k = 0; k < 15; k++) {
            zero.name(0, 5);
        }
        zero.name(1, 5);
        zero.couple(0, 15, 0, 0);
        zero.christening(15, 0, 0, 15, -1);
        int[] daughter = {1, 0, 1, 0, 0, 0, 15, 0, 1};
        for (int k = 0; k < FACTS.length(); k++) {
            fact(zero, 1, 0, FACTS.charAt(k), daughter[k]);
        }
    }

    private static void factsOfTwins() {
        due.sentence("t whether it is a TWIN (1, 0)");
        FontList list = people();
        child(list, PAUL, 20);
        child(list, ANNE, 20);
        child(list, MARK, 22);
        for (int i = 0; i < 3; i++) {
            fact(list, 7, i, 't', i < 2 ? 1 : 0);
        }
        fact(list, 3, 0, 't', 1);
        fact(list, 3, 1, 't', 1);
        fact(list, 5, 0, 't', 0);
        fact(list, 6, 1, 't', 0);
    }

    private static void factsOfTheDead() {
        due.sentence("e how many elder ones of its SEX DIED in its YEAR at the latest");
        FontList list = people();
        child(list, PAUL, 20);
        child(list, ANNE, 30);
        child(list, MARK, 40);
        fact(list, 7, 2, 'e', 0);
        list.died(0, 41);
        fact(list, 7, 2, 'e', 0);
        list.died(0, 40);
        fact(list, 7, 2, 'e', 1);
        list.died(1, 30);
        fact(list, 7, 2, 'e', 1);
        list.died(2, 40);
        fact(list, 7, 2, 'e', 1);
        fact(list, 7, 0, 'e', 0);
    }

    private static void reckonedWith32Bits() {
        due.sentence("All is reckoned with 32 bits, as the machine does");
        String least = "65536*32768";
        String greatest = "32767*65536+65535";
        holds(least + "<0");
        holds(greatest + ">0");
        holds(greatest + "+1=" + least);
        holds(least + "-1=" + greatest);
        holds("0-" + least + "=" + least);
        holds("[" + least + "]/[0-1]=" + least);
        holds("[" + least + "]%[0-1]=0");
        holds("[" + least + "]*[0-1]=" + least);
        holds("65536*65536=0");
        holds("46341*46341<0");
        holds("46340*46340>0");
        holds("99999*99999%10000=5409");
        holds("[0-7]/2=0-3");
        holds("[0-7]%2=0-1");
        holds("7%[0-2]=1");
        holdsNot(greatest + "<" + least);
        holds(least + "<" + greatest);
    }

    private static void dividedByNothing() {
        due.sentence("what is divided by 0 is REFUSED: then C does not hold");
        for (String piece : new String[] {"1/0=1", "0/0=0", "1%0=0", "0%0=0", "0=1/0", "1<2/0", "1/[n-1]=1", "1%b=0",
            "0*[5/0]=0", "5-5/0=5", "1/[1/2]=1"}) {
            holdsNot(piece);
            holdsNot("!" + piece);
            holdsNot("!(" + piece + ")");
            holdsNot(piece + "|1=1");
            holdsNot("(" + piece + "|1=1)|1=1");
        }
        holds("0/1=0");
        holds("0%1=0");
        FontList list = people();
        child(list, PAUL, 20);
        child(list, MARK, 30);
        due.use(list, "P(1/b=1);F(n=1)");
        due.is("the next CLAUSE for the first", list.by(0, 3, 0), 'F');
        due.is("this CLAUSE for the second", list.by(0, 3, 1), 'P');
    }

    private static void asMuchAsMatters() {
        due.sentence("Of a C as much is asked, from the left, as matters.");
        holds("1=1|1/0=1");
        holds("1=2|1=1|1/0=1");
        holds("1=2&1/0=1|1=1");
        holds("1=2&1=1&1/0=1|1=1");
        holds("(1=1|1/0=1)&1=1");
        holds("!(1=2&1/0=1)");
        holds("!(1=2&1/0=1&1/0=2)|1/0=1");
        holds("1=1&1=1|1/0=1&1/0=1");
        holdsNot("1=2&1/0=1");
        holdsNot("1/0=1&1=2|1=1");
        holdsNot("1=1&1/0=1|1=1");
        holdsNot("1=2|1/0=1|1=1");
        holdsNot("(1=2|1/0=1)|1=1");
    }

    private static void faultsFromTheLeft() {
        due.sentence("FAULTS, the first from the left");
        text("P(123456=((((((((", -2007);
        text("P(((((((123456", -5007);
        text("x(123456=1)", -1000);
        text("P(1=1)x(123456=1)", -1006);
        text(Due.times("P(n=1);", 12) + "P(123456=1)", -4084);
        text(Due.times("P(n=1);", 11) + "P(123456=1);P(n=1)", -2084);
        text("P(!!!!!!123456=1)", -5007);
        text("P(12345(6=1)", -1007);
    }

    /** Behind a beginning each byte is tried: what can stand there wants only more, or nothing more. */
    private static void standBehind(String beginning, String signs) {
        for (char sign = 0; sign < 256; sign++) {
            int want = -1000 - beginning.length();
            if (signs.indexOf(sign) >= 0) {
                String text = beginning + sign;
                boolean whole = sign == ')' && text.replace("(", "").length() == text.replace(")", "").length();
                want = whole ? 1 : want - 1;
            }
            text(beginning + sign, want);
        }
    }

    private static void faultOneAtEverySign() {
        due.sentence("1 what can't stand there (the end, too)");
        String factor = "[" + DIGITS + FACTS;
        standBehind("", LETTERS);
        standBehind("P", "(");
        for (String beginning : new String[] {"P(", "P(!", "P((", "P(n=1&", "P(n=1|", "P((n=1)&", "P(!(n=1)|"}) {
            standBehind(beginning, "!(" + factor);
        }
        for (String beginning : new String[] {"P([", "P(n=", "P(n<", "P(n>", "P(n+", "P(n-", "P(n*", "P(n/", "P(n%",
            "P([n+", "P(n=[", "P(n=n*"}) {
            standBehind(beginning, factor);
        }
        standBehind("P(n", "<>=" + SIGNS);
        standBehind("P(1", "<>=" + SIGNS + DIGITS);
        standBehind("P([n]", "<>=" + SIGNS);
        standBehind("P([n", "]" + SIGNS);
        standBehind("P([1", "]" + SIGNS + DIGITS);
        standBehind("P(n=n", ")&|" + SIGNS);
        standBehind("P(n=1", ")&|" + SIGNS + DIGITS);
        standBehind("P(n=[n]", ")&|" + SIGNS);
        standBehind("P((n=n", ")&|" + SIGNS);
        standBehind("P((n=n)", ")&|");
        standBehind("P(!n=n", ")&|" + SIGNS);
        standBehind("P(n=n)", ";");
        standBehind("P(n=n);", LETTERS);
    }

    private static void faultTwo() {
        due.sentence("2 a sixth digit, at it");
        text("P(000000=1)", -2007);
        text("P(123456", -2007);
        text("P(12345", -1007);
        text("P(1234567890=1)", -2007);
        text("P(1=123456)", -2009);
        text("P([1+123456]=1)", -2010);
        text("P(12345+12345*12345=12345)", 1);
    }

    private static void faultFour() {
        due.sentence("4 a 13th CLAUSE, at its letter (if that can stand there)");
        String twelve = Due.times("P(n=1);", 12);
        for (char letter = 0; letter < 256; letter++) {
            text(twelve + letter, LETTERS.indexOf(letter) >= 0 ? -4084 : -1084);
        }
        text(twelve, -1084);
        text(Due.times("P(n=1);", 11) + "P(n=1):P(n=1)", -1083);
        text(Due.times("P(n=1);", 11) + "P(n=1", -1082);
    }

    /** All ways to open so many: some of ( and !, then [ for the rest; closed again where it should stand. */
    private static void opened(int many, int want) {
        for (int outer = 0; outer <= many; outer++) {
            for (int bits = 0; bits < 1 << outer; bits++) {
                StringBuilder open = new StringBuilder("P(");
                StringBuilder close = new StringBuilder();
                for (int k = 0; k < outer; k++) {
                    boolean round = (bits >> k & 1) == 1;
                    open.append(round ? '(' : '!');
                    close.append(round ? ")" : "");
                }
                String squares = Due.times("[", many - outer);
                text(open + squares + "n" + squares.replace('[', ']') + "=1" + close + ")", want);
            }
        }
    }

    private static void faultFive() {
        due.sentence("5 a seventh of ( [ ! that are open in one another, at it (the ( of the CLAUSE counts");
        opened(4, 1);
        opened(5, 1);
        opened(6, -5007);
        opened(7, -5007);
        text("P(!!!!!n=[n])", -5009);
        text("P(!!!!n=[n])", 1);
        text("P(!!!!n=[[n]])", -5009);
    }

    private static void faultFiveAndWhatIsClosed() {
        due.sentence("a ! is open till its PIECE ends");
        text("P(!!!!!n=1&!!!!!n=1|!!!!!n=1)", 1);
        text("P(!!!!!n=1&[[[[[n]]]]]=1)", 1);
        text("P(!!!!(n=1)&!!!!(n=1))", 1);
        text("P(!(!(n=1)&!(n=1)&[[n]]=1))", 1);
        text("P(!(!(n=1)&!([[n]]=1)))", -5014);
        text("P(!(n=1)&!(n=1)&!(n=1)&!(n=1)&!(n=1)&!(n=1)&!(n=1))", 1);
        text("P([[[[[n]]]]]+[[[[[n]]]]]=[[[[[n]]]]])", 1);
        text("P(((((n=1)))|((((n=1)))))&(((((n=1))))))", 1);
        text("P(!(!(!(n=1))))", -5007);
        text("P(n=1);P(!!!!!n=1);P(((((n=1)))));P(!!!!!!n=1)", -5041);
    }

    private static void customsChangeInAYear() {
        due.sentence("CUSTOM A ahead of a YEAR of CHANGE, CUSTOM B from that YEAR on");
        FontList list = tenSons();
        Due.custom(list, 1, "P(1=1)");
        Due.custom(list, 2, "F(1=1)");
        int[][] changes = {{299, 'F'}, {300, 'P'}, {298, 'F'}, {0, 'F'}};
        for (int[] change : changes) {
            due.yes("in " + change[0], list.customs(1, 2, change[0]));
            due.is("the son of 299", list.by(0, 512, 9), change[1]);
        }
        list.customs(1, 2, 291);
        for (int i = 0; i < 10; i++) {
            due.is("the son of " + (281 + 2 * i), list.by(0, 1023, i), i < 5 ? 'P' : 'F');
        }
        list.customs(2, 1, 291);
        due.is("the other way round, ahead", list.by(0, 1023, 4), 'F');
        due.is("the other way round, from then on", list.by(0, 1023, 5), 'P');
        FontList early = people();
        early.couple(JOHN, MARY, 0, 0);
        child(early, PAUL, 0);
        Due.custom(early, 1, "P(1=1)");
        Due.custom(early, 2, "F(1=1)");
        early.customs(1, 2, 0);
        due.is("B in YEAR 0", early.by(1, 1, 0), 'F');
        early.customs(1, 2, 1);
        due.is("A in YEAR 0", early.by(1, 1, 0), 'P');
    }

    private static void atFirstAllAreFree() {
        due.sentence("(all told at once; at first none: all are FREE)");
        FontList list = people();
        child(list, PAUL, 20);
        for (int k = 0; k < 4; k++) {
            Due.custom(list, k, "P(1=1)");
            due.is("a TEXT is not THE CUSTOM yet", list.by(0, 1, 0), 0);
        }
        due.is("no A", list.count(4), -1);
        due.is("no B", list.count(5), -1);
        due.is("no YEAR", list.count(6), -1);
        due.no("A without B", list.customs(0, -1, 20));
        due.is("none of them is told by that", list.count(4) + list.count(5) + list.count(6), -3);
        due.yes("all at once", list.customs(3, 2, 20));
        due.is("A", list.count(4), 3);
        due.is("B", list.count(5), 2);
        due.is("the YEAR", list.count(6), 20);
        due.is("not FREE any more", list.by(0, 1, 0), 'P');
    }
}
