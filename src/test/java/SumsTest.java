import java.lang.reflect.Field;
import java.util.List;

/** Promises 33 to 37: answers, sums, shares and isSound. */
public final class SumsTest {
    public static void main(String[] args) throws ReflectiveOperationException {
        promise33And35Answers();
        promise34And36Levels();
        promise37IsSound();
        promise37FindsWrongLevels();
        promise37FindsTwiceHeld();
        promise37FindsWrongPlans();
        Checks.finish("SumsTest");
    }

    private static void promise33And35Answers() {
        Quizspool x = Machines.withLevels(1, 2, 3);
        Checks.due("answers()", 0, () -> x.answers());
        Checks.dueThrow("rightShare() of none", Checks.ARITHMETIC, () -> x.rightShare());
        x.quiz(0, 3, 0, 0);
        x.print();
        x.answer(0, 0, false);
        Checks.due("one wrong", 0.0f, () -> x.rightShare());
        x.answer(0, 1, true);
        Checks.due("one of two", 0.5f, () -> x.rightShare());
        x.answer(0, 2, true);
        Checks.due("two of three", 2.0f / 3.0f, () -> x.rightShare());
        Checks.due("three answers", 3, () -> x.answers());
    }

    private static void promise34And36Levels() {
        Quizspool x = new Quizspool();
        Checks.due("allLevels() of none", 0L, () -> x.allLevels());
        Checks.dueThrow("meanLevel() of none", Checks.ARITHMETIC, () -> x.meanLevel());
        Machines.addQuestion(x, 0, 1);
        Checks.due("the mean of 0", 0.0, () -> x.meanLevel());
        Machines.addQuestion(x, 100, 1);
        Machines.addQuestion(x, 33, 1);
        Checks.due("allLevels()", 133L, () -> x.allLevels());
        Checks.due("meanLevel()", 133.0 / 3.0, () -> x.meanLevel());
        x.quiz(0, 0, 0, 1);
        x.print();
        x.answer(0, 0, true);
        Checks.due("allLevels() behind an answer", 122L, () -> x.allLevels());
        Checks.due("meanLevel() behind an answer", 122.0 / 3.0, () -> x.meanLevel());
    }

    private static void promise37IsSound() {
        Checks.due("a new object is sound", true, () -> new Quizspool().isSound());
        Quizspool x = used();
        Checks.due("a used one is sound", true, () -> x.isSound());
        Checks.due("it stays sound", true, () -> x.isSound());
        Quizspool y = heldFirst();
        Checks.due("the first question held", true, () -> y.isSound());
        Checks.due("the first question held still", true, () -> y.isSound());
    }

    /** No run of calls makes an object unsound, so these tests bend the state inside it. */
    private static void promise37FindsWrongLevels() throws ReflectiveOperationException {
        for (int i = 0; i < 7; i++) {
            Quizspool x = used();
            setField(elements(x, "questions").get(i), "level", x.level(i) + 1);
            Checks.due("a level that no answers tell, of " + i, false, () -> x.isSound());
        }
    }

    private static void promise37FindsTwiceHeld() throws ReflectiveOperationException {
        Quizspool x = used();
        Object question = elements(elements(x, "sheets").get(1), "questions").get(0);
        elements(elements(x, "plans").get(1), "held").add(question);
        Checks.due("held by a plan and a sheet", false, () -> x.isSound());
        Quizspool y = used();
        Object other = elements(elements(y, "plans").get(0), "held").get(0);
        elements(elements(y, "plans").get(2), "held").add(other);
        Checks.due("held by two plans", false, () -> y.isSound());
        Quizspool z = used();
        Object third = elements(elements(z, "sheets").get(1), "questions").get(0);
        elements(elements(z, "sheets").get(2), "questions").add(third);
        Checks.due("held by two sheets", false, () -> z.isSound());
        Quizspool w = used();
        Object fourth = elements(elements(w, "sheets").get(1), "questions").get(0);
        elements(elements(w, "sheets").get(0), "questions").add(fourth);
        Checks.due("on a printed sheet too", true, () -> w.isSound());
        Quizspool v = heldFirst();
        Object first = elements(elements(v, "sheets").get(0), "questions").get(0);
        elements(elements(v, "plans").get(0), "held").set(0, first);
        Checks.due("the first question held twice", false, () -> v.isSound());
    }

    private static void promise37FindsWrongPlans() throws ReflectiveOperationException {
        Quizspool x = used();
        Object hard = elements(x, "questions").get(3);
        elements(elements(x, "plans").get(0), "held").add(hard);
        Checks.due("a plan with another kind", false, () -> x.isSound());
        Quizspool y = used();
        Object easy = elements(y, "questions").get(1);
        elements(elements(y, "plans").get(0), "held").add(easy);
        Checks.due("a plan with a free one of its kind", true, () -> y.isSound());
        Object held = elements(elements(y, "plans").get(0), "held").get(0);
        setField(easy, "family", getField(held, "family"));
        Checks.due("a plan with twins", false, () -> y.isSound());
        Quizspool z = heldFirst();
        Object middle = elements(z, "questions").get(2);
        elements(elements(z, "plans").get(0), "held").set(0, middle);
        Checks.due("a plan with one of another kind alone", false, () -> z.isSound());
    }

    /** Sheets: 0 printed, 4 and 6 waiting, 1 cancelled. Plans: 2 held, 5 held, a dropped one. */
    private static Quizspool used() {
        Quizspool x = Machines.withLevels(10, 11, 12, 90, 40, 41, 42);
        x.quiz(0, 1, 0, 0);
        x.print();
        x.answer(0, 0, false);
        x.quiz(0, 0, 1, 0);
        x.quiz(1, 0, 1, 0);
        x.quiz(0, 1, 0, 0);
        x.plan(1, 'e', 1);
        x.plan(1, 'm', 9);
        x.plan(1, 'e', 2);
        x.drop(2);
        x.cancel(3);
        return x;
    }

    /** The sheet 0 waits with the question 0, and the plan 0 holds the question 1. */
    private static Quizspool heldFirst() {
        Quizspool x = Machines.withLevels(10, 11, 50);
        x.quiz(0, 1, 0, 0);
        x.plan(0, 'e', 1);
        return x;
    }

    @SuppressWarnings("unchecked")
    private static List<Object> elements(Object owner, String name)
            throws ReflectiveOperationException {
        return (List<Object>) getField(owner, name);
    }

    private static Object getField(Object owner, String name) throws ReflectiveOperationException {
        Field field = owner.getClass().getDeclaredField(name);
        field.setAccessible(true);
        return field.get(owner);
    }

    private static void setField(Object owner, String name, Object value)
            throws ReflectiveOperationException {
        Field field = owner.getClass().getDeclaredField(name);
        field.setAccessible(true);
        field.set(owner, value);
    }
}
