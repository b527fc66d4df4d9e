/** A small parish that tests extend: NAMES by what they are called, and one COUPLE of them. */
abstract class Parish {
    static final int JOHN = 0;
    static final int PAUL = 1;
    static final int MARK = 2;
    static final int LUKE = 3;
    static final int MARY = 4;
    static final int ANNE = 5;
    static final int RUTH = 6;

    /** John and Mary, wed in 10, children to 90; NAMES say 11, 12, .. by their numbers. */
    static FontList people() {
        FontList list = new FontList();
        for (int k = 0; k < 4; k++) {
            list.name(0, 11 + k);
        }
        for (int k = 4; k < 7; k++) {
            list.name(1, 11 + k);
        }
        list.couple(JOHN, MARY, 10, 90);
        return list;
    }

    /** The same with a second COUPLE of the same NAMES and YEARS. */
    static FontList twoCouples() {
        FontList list = people();
        list.couple(JOHN, MARY, 10, 90);
        return list;
    }

    /** A child of John and Mary without a SPONSOR. */
    static int child(FontList list, int name, int year) {
        return list.christening(name, year, JOHN, MARY, -1);
    }

    /** By which CLAUSE an only son of 20 is named where the CUSTOM is P with this C: 'P', or 0 if C does not hold. */
    static int byAnOnlySon(String c) {
        FontList list = people();
        child(list, PAUL, 20);
        Due.custom(list, 0, "P(" + c + ")");
        list.customs(0, 0, 0);
        return list.by(0, 1, 0);
    }

    /** A COUPLE of 0 to 299 with sons of 281, 283, .. 299, NAMES 9 to 0, each dead in his own YEAR. */
    static FontList tenSons() {
        FontList list = new FontList();
        for (int k = 0; k < 10; k++) {
            list.name(0, 100);
        }
        list.name(1, 100);
        list.couple(0, 10, 0, 299);
        for (int i = 0; i < 10; i++) {
            list.christening(9 - i, 281 + 2 * i, 0, 10, -1);
            list.died(i, 281 + 2 * i);
        }
        return list;
    }
}
