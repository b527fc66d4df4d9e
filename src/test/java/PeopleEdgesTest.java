/** Terms, part 1: each sentence on NAMES, COUPLES, CHRISTENINGS, TIES and FAMILIES that names a boundary case. */
public final class PeopleEdgesTest extends Parish {
    private static final Due due = new Due();
    private static final int LEAST = Integer.MIN_VALUE;
    private static final int GREATEST = Integer.MAX_VALUE;

    public static void main(String[] args) {
        namesAreSixteen();
        namesHaveASex();
        namesSayOneToHundred();
        couplesAreSix();
        couplesAreOfAManAndAWoman();
        couplesWedInYears();
        couplesHaveALastYear();
        parentsAreToldOrNot();
        parentsAreOfTheirSex();
        christeningsAreTen();
        christeningsHaveYears();
        mothersAreToldOrNot();
        sponsorsAreOfTheChildsSex();
        deathsAreNotAheadOfTheirOwn();
        tiesAreByNames();
        tiesAreFromWedToTheLast();
        familiesHaveYearsBetween();
        familiesHaveTwinsAtMost();
        familiesHaveNamesOnce();
        familiesMayNameAgain();
        childrenComeByYearsThenNumbers();
        due.end("PeopleEdgesTest");
    }

    private static FontList sixteen() {
        FontList list = new FontList();
        for (int k = 0; k < 16; k++) {
            list.name(k % 2, 1 + k);
        }
        return list;
    }

    private static void namesAreSixteen() {
        due.sentence("NAMES 0 to 15");
        FontList list = new FontList();
        for (int k = 0; k < 16; k++) {
            due.is("the next NAME", list.name(1 - k % 2, 5), k);
            due.is("so many", list.count(0), k + 1);
        }
        due.is("NAME 16 of men", list.name(0, 5), -1);
        due.is("NAME 16 of women", list.name(1, 5), -1);
        due.is("still 16", list.count(0), 16);
        due.is("NAMES 15 and 14 serve", list.couple(15, 14, 0, 0), 0);
        due.is("NAME 16 is none", list.couple(16, 14, 0, 0), -1);
    }

    private static void namesHaveASex() {
        due.sentence("a SEX (0 of men, 1 of women)");
        FontList list = new FontList();
        for (int sex : new int[] {-1, 2, 3, 256, LEAST, GREATEST}) {
            due.is("SEX " + sex, list.name(sex, 5), -1);
        }
        due.is("none by then", list.count(0), 0);
        due.is("SEX 0", list.name(0, 5), 0);
        due.is("SEX 1", list.name(1, 5), 1);
        due.is("1 is no man's", list.couple(1, 1, 0, 0), -1);
        due.is("0 is no woman's", list.couple(0, 0, 0, 0), -1);
        due.is("each as its own", list.couple(0, 1, 0, 0), 0);
    }

    private static void namesSayOneToHundred() {
        due.sentence("SAYS (1 to 100: how much it tells if a child has it by custom)");
        FontList list = new FontList();
        for (int says : new int[] {0, 101, -1, 257, LEAST, GREATEST}) {
            due.is("SAYS " + says, list.name(0, says), -1);
        }
        due.is("SAYS 1", list.name(0, 1), 0);
        due.is("SAYS 100", list.name(1, 100), 1);
        list.couple(0, 1, 0, 99);
        list.christening(0, 10, 0, 1, -1);
        list.christening(1, 20, 0, 1, -1);
        due.use(list, "P(n=1);Q(n=1)");
        due.is("a son has it", list.points(0, 1), 1);
        due.is("a daughter has it", list.points(0, 2), 100);
        due.is("both", list.points(0, 3), 101);
    }

    private static void couplesAreSix() {
        due.sentence("COUPLES 0 to 5");
        FontList list = sixteen();
        for (int c = 0; c < 6; c++) {
            due.is("there is none yet", list.family(c, 0), -1);
            due.is("the next COUPLE", list.couple(2 * c, 1, c, 299), c);
            due.is("there it is", list.family(c, 0), 1);
        }
        due.is("COUPLE 6", list.couple(0, 1, 0, 299), -1);
        due.is("six", list.count(1), 6);
        due.is("nobody is no COUPLE", list.family(6, 0), -1);
        due.is("below", list.family(-1, 0), -1);
    }

    private static void couplesAreOfAManAndAWoman() {
        due.sentence("HUSBAND (a NAME of men), WIFE (of women)");
        FontList list = sixteen();
        for (int name : new int[] {1, 15, 16, -1, LEAST, GREATEST}) {
            due.is("HUSBAND " + name, list.couple(name, 1, 0, 0), -1);
        }
        for (int name : new int[] {0, 14, 16, -1, LEAST, GREATEST}) {
            due.is("WIFE " + name, list.couple(0, name, 0, 0), -1);
        }
        due.is("none by then", list.count(1), 0);
        due.is("the last ones", list.couple(14, 15, 0, 0), 0);
        due.is("the first ones", list.couple(0, 1, 0, 0), 1);
    }

    private static void couplesWedInYears() {
        due.sentence("the YEAR in which they WED (0 to 299)");
        FontList list = sixteen();
        for (int wed : new int[] {-1, 300, LEAST, GREATEST}) {
            due.is("WED in " + wed, list.couple(0, 1, wed, 299), -1);
            due.is("WED in " + wed + ", the last YEAR too", list.couple(0, 1, wed, wed), -1);
        }
        due.is("none by then", list.count(1), 0);
        due.is("WED in 0", list.couple(0, 1, 0, 299), 0);
        due.is("WED in 299", list.couple(0, 1, 299, 299), 1);
    }

    private static void couplesHaveALastYear() {
        due.sentence("the last YEAR in which they can have had a child (to 299)");
        FontList list = sixteen();
        due.is("to 300", list.couple(0, 1, 0, 300), -1);
        due.is("to the end of all", list.couple(0, 1, 0, GREATEST), -1);
        due.is("a YEAR ahead of it", list.couple(0, 1, 7, 6), -1);
        due.is("from 0 to -1", list.couple(0, 1, 0, -1), -1);
        due.is("the least", list.couple(0, 1, 0, LEAST), -1);
        due.is("none by then", list.count(1), 0);
        due.is("to 299", list.couple(0, 1, 7, 299), 0);
        due.is("in that YEAR alone", list.couple(0, 1, 7, 7), 1);
        due.is("0 alone", list.couple(0, 1, 0, 0), 2);
        list.christening(0, 7, 0, 1, -1);
        due.is("a child in it", list.tie(0, 1), 1);
        due.is("not in 0", list.tie(0, 2), 0);
    }

    private static void parentsAreToldOrNot() {
        due.sentence("NAMES of their four parents, each told or not");
        FontList list = sixteen();
        list.couple(0, 1, 0, 99);
        list.couple(0, 1, 0, 99);
        for (int w = 0; w < 4; w++) {
            due.is("not told at first", list.grand(1, w), 0);
            due.yes("told", list.parent(1, w, 12 + w % 2));
            due.is("that one", list.grand(1, w), 1 << 12 + w % 2);
            due.yes("told anew", list.parent(1, w, 14 + w % 2));
            due.is("the new one", list.grand(1, w), 1 << 14 + w % 2);
            due.is("not the other COUPLE's", list.grand(0, w), 0);
        }
        for (int w = 0; w < 4; w++) {
            due.yes("not told any more", list.parent(1, w, -1));
            due.is("none", list.grand(1, w), 0);
            due.is("the next one stays", list.grand(1, 3), w == 3 ? 0 : 1 << 15);
        }
    }

    private static void parentsAreOfTheirSex() {
        due.sentence("0 his father, 1 his mother, 2 her father, 3 her mother (of that SEX)");
        FontList list = sixteen();
        list.couple(0, 1, 0, 99);
        for (int w = 0; w < 4; w++) {
            due.no("of the other SEX", list.parent(0, w, 1 - w % 2));
            due.no("the last one of the other SEX", list.parent(0, w, 15 - w % 2));
            due.no("no such NAME", list.parent(0, w, 16));
            due.is("not told by that", list.grand(0, w), 0);
            due.yes("of its SEX", list.parent(0, w, w % 2));
        }
        due.no("parent 4", list.parent(0, 4, 0));
        due.no("parent -1", list.parent(0, -1, 1));
        due.no("parent 4 not told", list.parent(0, 4, -1));
    }

    private static void christeningsAreTen() {
        due.sentence("CHRISTENINGS 0 to 9");
        FontList list = sixteen();
        for (int i = 0; i < 10; i++) {
            due.is("there is none yet", list.look(i, 0), -1);
            due.is("the next CHRISTENING", list.christening(i, i, 0, -1, -1), i);
            due.is("there it is", list.look(i, 0), i);
        }
        due.is("CHRISTENING 10", list.christening(0, 0, 0, -1, -1), -1);
        due.is("ten", list.count(2), 10);
        due.is("there is no 10", list.look(10, 0), -1);
    }

    private static void christeningsHaveYears() {
        due.sentence("a NAME (its SEX is the child's), a YEAR (0 to 299)");
        FontList list = sixteen();
        for (int year : new int[] {-1, 300, LEAST, GREATEST}) {
            due.is("in " + year, list.christening(0, year, 0, -1, -1), -1);
        }
        for (int name : new int[] {-1, 16, LEAST, GREATEST}) {
            due.is("NAME " + name, list.christening(name, 0, 0, -1, -1), -1);
        }
        due.is("none by then", list.count(2), 0);
        due.is("in 0", list.christening(15, 0, 0, -1, -1), 0);
        due.is("in 299", list.christening(14, 299, 0, -1, -1), 1);
        list.couple(0, 1, 0, 299);
        due.use(list, "P(1=1);Q(1=1)");
        due.is("15 is a daughter", list.by(0, 3, 0), 'Q');
        due.is("14 is a son", list.by(0, 3, 1), 'P');
    }

    private static void mothersAreToldOrNot() {
        due.sentence("the father's NAME, the mother's or none told");
        FontList list = sixteen();
        for (int name : new int[] {-1, 1, 15, 16, LEAST, GREATEST}) {
            due.is("father " + name, list.christening(0, 5, name, -1, -1), -1);
        }
        for (int name : new int[] {-2, 0, 14, 16, LEAST, GREATEST}) {
            due.is("mother " + name, list.christening(0, 5, 0, name, -1), -1);
        }
        due.is("none by then", list.count(2), 0);
        due.is("the last ones", list.christening(0, 5, 14, 15, -1), 0);
        due.is("no mother", list.christening(0, 5, 14, -1, -1), 1);
        due.is("told", list.look(0, 3), 15);
        due.is("not told", list.look(1, 3), -1);
    }

    private static void sponsorsAreOfTheChildsSex() {
        due.sentence("a SPONSOR's NAME of the child's SEX, or none");
        FontList list = sixteen();
        for (int name : new int[] {1, 15, 16, -2, LEAST, GREATEST}) {
            due.is("a son's SPONSOR " + name, list.christening(0, 5, 0, -1, name), -1);
        }
        for (int name : new int[] {0, 14, 16, -2, LEAST, GREATEST}) {
            due.is("a daughter's SPONSOR " + name, list.christening(1, 5, 0, -1, name), -1);
        }
        due.is("none by then", list.count(2), 0);
        due.is("a son's", list.christening(0, 5, 0, -1, 14), 0);
        due.is("a daughter's", list.christening(1, 5, 0, -1, 15), 1);
        due.is("of the child's own NAME", list.christening(0, 5, 0, -1, 0), 2);
        due.is("none", list.christening(0, 5, 0, -1, -1), 3);
        due.is("14", list.look(0, 4), 14);
        due.is("15", list.look(1, 4), 15);
        due.is("0", list.look(2, 4), 0);
        due.is("none told", list.look(3, 4), -1);
    }

    private static void deathsAreNotAheadOfTheirOwn() {
        due.sentence("the YEAR in which it DIED, or none told (not ahead of its own)");
        FontList list = sixteen();
        list.christening(0, 5, 0, -1, -1);
        list.christening(0, 0, 0, -1, -1);
        list.christening(0, 299, 0, -1, -1);
        due.is("none told at first", list.look(0, 5), -1);
        due.no("a YEAR ahead of its own", list.died(0, 4));
        due.no("YEAR 0", list.died(0, 0));
        due.no("beyond all YEARS", list.died(0, 300));
        due.no("below NONE", list.died(0, -2));
        due.is("none told by then", list.look(0, 5), -1);
        due.yes("its own YEAR", list.died(0, 5));
        due.is("5", list.look(0, 5), 5);
        due.yes("the last YEAR", list.died(0, 299));
        due.is("299", list.look(0, 5), 299);
        due.yes("YEAR 0 for one of YEAR 0", list.died(1, 0));
        due.is("0", list.look(1, 5), 0);
        due.yes("299 for one of 299", list.died(2, 299));
        due.no("298 for one of 299", list.died(2, 298));
        due.is("still 299", list.look(2, 5), 299);
        due.yes("not told any more", list.died(0, -1));
        due.is("none", list.look(0, 5), -1);
    }

    private static void tiesAreByNames() {
        due.sentence("can be if the father is named as the HUSBAND, the mother, if told, as the WIFE");
        FontList list = people();
        list.christening(PAUL, 50, JOHN, MARY, -1);
        list.christening(PAUL, 50, JOHN, -1, -1);
        list.christening(PAUL, 50, JOHN, ANNE, -1);
        list.christening(PAUL, 50, PAUL, MARY, -1);
        list.christening(PAUL, 50, PAUL, -1, -1);
        due.is("both as named", list.tie(0, 0), 1);
        due.is("no mother told", list.tie(1, 0), 1);
        due.is("another mother", list.tie(2, 0), 0);
        due.is("another father", list.tie(3, 0), 0);
        due.is("another father, no mother told", list.tie(4, 0), 0);
    }

    private static void tiesAreFromWedToTheLast() {
        due.sentence("its YEAR is from WED to the last one");
        FontList list = people();
        int[] years = {9, 10, 11, 89, 90, 91, 0, 299};
        int[] want = {0, 1, 1, 1, 1, 0, 0, 0};
        for (int i = 0; i < years.length; i++) {
            child(list, PAUL, years[i]);
            due.is("in " + years[i], list.tie(i, 0), want[i]);
            due.is("as a FAMILY", list.family(0, 1 << i), want[i]);
        }
    }

    private static void familiesHaveYearsBetween() {
        due.sentence("no two of them in two YEARS that follow one another");
        FontList list = people();
        child(list, PAUL, 40);
        child(list, MARK, 41);
        child(list, LUKE, 42);
        child(list, ANNE, 39);
        child(list, RUTH, 38);
        due.is("40 and 41", list.family(0, 0b00011), 0);
        due.is("41 and 40 by numbers", list.family(0, 0b01001), 0);
        due.is("40 and 42", list.family(0, 0b00101), 1);
        due.is("40 and 38", list.family(0, 0b10001), 1);
        due.is("38, 40 and 42", list.family(0, 0b10101), 1);
        due.is("39 and 41", list.family(0, 0b01010), 1);
        due.is("38, 40 and 41", list.family(0, 0b10011), 0);
        due.is("a son and a daughter", list.family(0, 0b11000), 0);
        due.is("POINTS, too", list.points(0, 0b00011), -1000000);
    }

    private static void familiesHaveTwinsAtMost() {
        due.sentence("(in one YEAR they are TWINS: two at most)");
        FontList list = people();
        child(list, PAUL, 40);
        child(list, MARK, 40);
        child(list, ANNE, 40);
        child(list, LUKE, 42);
        child(list, RUTH, 42);
        due.is("two sons", list.family(0, 0b00011), 1);
        due.is("a son and a daughter", list.family(0, 0b00101), 1);
        due.is("three", list.family(0, 0b00111), 0);
        due.is("two and two", list.family(0, 0b11011), 1);
        due.is("three and one", list.family(0, 0b01111), 0);
        due.use(list, "P(t=1);Q(t=1)");
        due.is("a TWIN", list.by(0, 0b01101, 2), 'Q');
        due.is("no TWIN", list.by(0, 0b01101, 3), 0);
    }

    private static void familiesHaveNamesOnce() {
        due.sentence("no two of one NAME, unless the elder DIED, told, in the younger one's YEAR at the latest");
        FontList list = people();
        child(list, PAUL, 40);
        child(list, PAUL, 50);
        due.is("not told", list.family(0, 3), 0);
        list.died(0, 51);
        due.is("a YEAR later", list.family(0, 3), 0);
        list.died(0, 50);
        due.is("in that YEAR", list.family(0, 3), 1);
        list.died(0, 49);
        due.is("a YEAR ahead of it", list.family(0, 3), 1);
        list.died(0, 40);
        due.is("in its own YEAR", list.family(0, 3), 1);
        list.died(0, -1);
        list.died(1, 50);
        due.is("the younger DIED", list.family(0, 3), 0);
        due.is("each alone", list.family(0, 1) + list.family(0, 2), 2);
    }

    private static void familiesMayNameAgain() {
        due.sentence("unless the elder DIED, told");
        FontList list = people();
        child(list, PAUL, 40);
        child(list, PAUL, 40);
        child(list, PAUL, 60);
        list.died(1, 40);
        due.is("the TWIN of the higher number DIED", list.family(0, 0b011), 0);
        list.died(0, 40);
        due.is("the TWIN of the lower number DIED", list.family(0, 0b011), 1);
        due.is("a third one, both DIED", list.family(0, 0b111), 1);
        list.died(1, 61);
        due.is("a third one, one of two too late", list.family(0, 0b111), 0);
        list.died(1, 60);
        due.is("a third one, both in time", list.family(0, 0b111), 1);
    }

    private static void childrenComeByYearsThenNumbers() {
        due.sentence("Children come by YEARS, then by numbers.");
        FontList list = people();
        child(list, PAUL, 60);
        child(list, MARK, 40);
        child(list, LUKE, 60);
        child(list, JOHN, 20);
        int[] ahead = {2, 1, 3, 0};
        for (int i = 0; i < 4; i++) {
            due.use(list, "P(b=" + ahead[i] + ")");
            due.is("b of " + i, list.by(0, 15, i), 'P');
            due.use(list, "P(n=" + (ahead[i] + 1) + ")");
            due.is("n of " + i, list.by(0, 15, i), 'P');
            due.use(list, "P(!n=" + (ahead[i] + 1) + ")");
            due.is("no other n of " + i, list.by(0, 15, i), 0);
        }
    }
}
