/** Promise 20: children that must have been. */
public final class MustTest {
    private static final Due due = new Due();
    private static final int JOHN = 0;
    private static final int MARY = 1;
    private static final int PAUL = 2;
    private static final int MARK = 3;
    private static final int LUKE = 4;
    private static final int ANNE = 5;
    private static final int RUTH = 6;

    public static void main(String[] args) {
        ofParentsTold();
        ofParentsNotTold();
        ofBothSexes();
        fromOneChildToTheNext();
        ofTheFifthAndTheSixth();
        allElseAsItIs();
        ofNoSuchOnes();
        due.end("MustTest");
    }

    private static FontList people() {
        FontList list = new FontList();
        int[] sexes = {0, 1, 0, 0, 0, 1, 1};
        for (int sex : sexes) {
            list.name(sex, 5);
        }
        list.couple(JOHN, MARY, 10, 90);
        return list;
    }

    private static int child(FontList list, int name, int year) {
        return list.christening(name, year, JOHN, MARY, -1);
    }

    private static void ofParentsTold() {
        FontList list = people();
        child(list, JOHN, 20);
        due.is("no CUSTOM", list.must(0, 1, 0), 0);
        list.parent(0, 0, PAUL);
        list.parent(0, 2, MARK);
        due.use(list, "F(n=1);M(n=2);P(n=3)");
        due.is("John is a third one", list.must(0, 1, 0), 2);
        child(list, MARK, 22);
        due.is("Mark is a second one", list.must(0, 2, 0), 1);
        due.is("Mark is FREE behind John", list.must(0, 3, 0), 2);
        due.is("no child", list.must(0, 0, 0), 0);
        child(list, LUKE, 24);
        due.is("Luke is FREE as a fourth one", list.must(0, 4, 0), 3);
    }

    private static void ofParentsNotTold() {
        FontList list = people();
        child(list, PAUL, 20);
        child(list, MARK, 22);
        due.use(list, "F(n=1|n=2);M(n=3);P(n=4)");
        due.is("Paul is his father's, Mark her father's", list.must(0, 3, 0), 1);
        list.parent(0, 2, LUKE);
        due.is("her father is Luke: one for both NAMES doesn't do, then FREE", list.must(0, 3, 0), 3);
        list.parent(0, 2, -1);
        list.parent(0, 0, MARK);
        due.is("his father is Mark: Paul is her father's, Mark FREE", list.must(0, 3, 0), 3);
        list.parent(0, 0, PAUL);
        due.is("his father is Paul", list.must(0, 3, 0), 1);
        due.use(list, "F(n>0)");
        list.parent(0, 0, -1);
        due.is("one NAME for both", list.must(0, 3, 0), -2);
        due.is("any NAME for one", list.must(0, 1, 0), 0);
    }

    private static void ofBothSexes() {
        FontList list = people();
        child(list, ANNE, 20);
        child(list, JOHN, 22);
        child(list, RUTH, 24);
        list.parent(0, 1, RUTH);
        list.parent(0, 3, ANNE);
        due.use(list, "f(n=1);m(n=2);Q(n=4);P(n=2)");
        due.is("Anne is a second one, Ruth a third", list.must(0, 7, 1), 1);
        due.is("John is FREE as a first one", list.must(0, 7, 0), 0);
        due.use(list, "P(n=3);F(n=1);Q(n=4);f(n<4)");
        list.parent(0, 0, LUKE);
        due.is("John is FREE as a second one", list.must(0, 2, 0), 1);
        due.is("no daughter", list.must(0, 2, 1), 0);
    }

    private static void fromOneChildToTheNext() {
        FontList list = people();
        child(list, PAUL, 20);
        child(list, MARK, 22);
        child(list, LUKE, 24);
        list.parent(0, 0, PAUL);
        list.parent(0, 2, LUKE);
        due.use(list, "F(n=2);M(n=6);P(n<6)");
        due.is("1 ahead of Paul, 3 ahead of Mark: FREE at 7 only", list.must(0, 3, 0), 5);
        due.is("Luke is a sixth one", list.must(0, 4, 0), 5);
        due.is("1 ahead of Paul, 4 ahead of Luke", list.must(0, 5, 0), 4);
        due.is("Luke is FREE behind Mark", list.must(0, 7, 0), 5);
        due.use(list, "F(n=2);M(n=6);P(n<6);F(n>6)");
        due.is("Mark is never right", list.must(0, 3, 0), -2);
        due.is("out of the order of numbers", list.must(0, 5, 0), 4);
        FontList turned = people();
        child(turned, PAUL, 30);
        child(turned, MARK, 20);
        turned.parent(0, 0, PAUL);
        turned.parent(0, 2, MARK);
        due.use(turned, "F(n=1);M(n=2);F(n=3)");
        due.is("Mark came first: then Paul is a third one", turned.must(0, 3, 0), 1);
    }

    private static void ofTheFifthAndTheSixth() {
        FontList list = people();
        child(list, JOHN, 20);
        list.parent(0, 0, PAUL);
        due.use(list, "P(n=6);F(n>0)");
        due.is("five do", list.must(0, 1, 0), 5);
        due.use(list, "P(n=7);F(n>0)");
        due.is("five don't do", list.must(0, 1, 0), -2);
        due.use(list, "F(n<7)");
        due.is("FREE as a seventh one only", list.must(0, 1, 0), -2);
        due.use(list, "F(n<6)");
        due.is("FREE as a sixth one", list.must(0, 1, 0), 5);
    }

    private static void allElseAsItIs() {
        FontList list = people();
        child(list, JOHN, 20);
        list.parent(0, 0, PAUL);
        due.use(list, "P(b=1);F(n>0)");
        due.is("b does not grow", list.must(0, 1, 0), -2);
        due.use(list, "P(c=2);F(n>0)");
        due.is("c does not grow", list.must(0, 1, 0), -2);
        due.use(list, "P(e=1);F(n>0)");
        due.is("e does not grow", list.must(0, 1, 0), -2);
        due.use(list, "F(1/[n-3]<1);P(n=3)");
        due.is("what is REFUSED does not hold", list.must(0, 1, 0), 2);
        Due.custom(list, 1, "P(n=2);F(n>0)");
        Due.custom(list, 2, "P(n=3);F(n>0)");
        list.customs(1, 2, 21);
        due.is("A", list.must(0, 1, 0), 1);
        list.customs(1, 2, 20);
        due.is("B", list.must(0, 1, 0), 2);
        FontList dead = people();
        child(dead, PAUL, 20);
        child(dead, PAUL, 30);
        dead.died(0, 25);
        due.use(dead, "D(n>2);P(n=2)");
        due.is("the dead one stays", dead.must(0, 3, 0), 1);
        FontList sponsored = people();
        sponsored.christening(PAUL, 20, JOHN, MARY, PAUL);
        due.use(sponsored, "S(n=3);P(n>0)");
        due.is("the SPONSOR stays", sponsored.must(0, 1, 0), 2);
        due.is("it changed nothing", sponsored.points(0, 1), -10);
    }

    private static void ofNoSuchOnes() {
        FontList list = people();
        child(list, PAUL, 20);
        child(list, MARK, 21);
        due.is("must(1, 0, 0)", list.must(1, 0, 0), -1);
        due.is("must(-1, 0, 0)", list.must(-1, 0, 0), -1);
        due.is("must(0, 4, 0)", list.must(0, 4, 0), -1);
        due.is("must(0, -1, 0)", list.must(0, -1, 0), -1);
        due.is("must(0, 1, 2)", list.must(0, 1, 2), -1);
        due.is("must(0, 1, -1)", list.must(0, 1, -1), -1);
        due.is("it can't be", list.must(0, 3, 0), -1);
        due.is("it can be", list.must(0, 1, 0), 0);
    }
}
