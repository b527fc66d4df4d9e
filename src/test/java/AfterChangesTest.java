import java.util.LinkedHashMap;
import java.util.Map;
import java.util.function.Consumer;
import java.util.function.ToLongFunction;

/**
 * What is asked of THE BEST is true of what is told by then: after each change each question comes first once, on an
 * object that had been asked before the change and on one that had not.
 */
public final class AfterChangesTest extends Parish {
    private static final Due due = new Due();

    public static void main(String[] args) {
        Map<String, ToLongFunction<FontList>> questions = questions();
        for (Map.Entry<String, Consumer<FontList>> change : changes().entrySet()) {
            int matters = 0;
            for (Map.Entry<String, ToLongFunction<FontList>> question : questions.entrySet()) {
                FontList asked = parish();
                long before = question.getValue().applyAsLong(asked);
                change.getValue().accept(asked);
                long after = question.getValue().applyAsLong(asked);
                FontList unasked = parish();
                change.getValue().accept(unasked);
                due.is(question.getKey() + " after " + change.getKey(), after, question.getValue().applyAsLong(unasked));
                matters += before != after ? 1 : 0;
            }
            due.yes(change.getKey() + " matters", matters > 0);
        }
        due.end("AfterChangesTest");
    }

    private static FontList parish() {
        FontList list = twoCouples();
        list.christening(PAUL, 20, JOHN, -1, LUKE);
        list.christening(PAUL, 22, JOHN, -1, -1);
        list.christening(MARK, 24, JOHN, -1, PAUL);
        list.christening(ANNE, 60, JOHN, -1, -1);
        list.christening(RUTH, 91, JOHN, -1, -1);
        Due.custom(list, 0, "F(n=1);P(n=2);S(n=3)");
        Due.custom(list, 1, "S(n=1);M(n=2);Q(n=1)");
        list.customs(0, 1, 23);
        return list;
    }

    private static Map<String, Consumer<FontList>> changes() {
        Map<String, Consumer<FontList>> changes = new LinkedHashMap<>();
        changes.put("couple", list -> list.couple(JOHN, MARY, 20, 99));
        changes.put("parent told", list -> list.parent(0, 0, MARK));
        changes.put("christening", list -> list.christening(LUKE, 26, JOHN, MARY, PAUL));
        changes.put("died", list -> list.died(0, 21));
        changes.put("LOSS", list -> list.weighs(0, 20));
        changes.put("ALONE", list -> list.weighs(10, 1));
        changes.put("custom", list -> Due.custom(list, 0, "S(n=1);P(n>1)"));
        changes.put("customs", list -> list.customs(1, 0, 23));
        return changes;
    }

    private static Map<String, ToLongFunction<FontList>> questions() {
        Map<String, ToLongFunction<FontList>> questions = new LinkedHashMap<>();
        for (int k = 0; k < 4; k++) {
            int what = k;
            questions.put("ways " + what, list -> list.ways(what));
            questions.put("best " + what, list -> list.best(what));
            questions.put("sure " + what, list -> list.sure(what, 1));
            questions.put("sure of nobody " + what, list -> list.sure(what, 6));
            questions.put("grand 0 " + what, list -> list.grand(0, what));
            questions.put("grand 1 " + what, list -> list.grand(1, what));
        }
        questions.put("little 12", list -> list.little(12));
        questions.put("little 40", list -> list.little(40));
        questions.put("check", AfterChangesTest::checked);
        return questions;
    }

    /** The first of a row that is not so, where the row is THE BEST of the parish before its changes. */
    private static long checked(FontList list) {
        if (list.count(3) == 0) {
            Due.row(list, 0, 1, 0, 0, 6, 6);
        }
        return list.check();
    }
}
