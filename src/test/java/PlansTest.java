/** Promises 14 to 21: weeks, plans and what they hold, free questions. */
public final class PlansTest {
    public static void main(String[] args) {
        promise14And15Weeks();
        promise15LastWeek();
        promise15PastPlansLetGo();
        promise16Plan();
        promise16RefusedPlans();
        promise17Drop();
        promise18And19HeldInTheOrderTaken();
        promise20Lacks();
        promise21IsFree();
        twinsInPlans();
        shiftedLevelsMoveBetweenPlans();
        Checks.finish("PlansTest");
    }

    private static void promise14And15Weeks() {
        Quizspool x = new Quizspool();
        Checks.due("nextWeek()", 1, () -> x.nextWeek());
        Checks.due("week()", 1, () -> x.week());
        Checks.due("nextWeek() again", 2, () -> x.nextWeek());
        Checks.due("week() again", 2, () -> x.week());
    }

    /** The week 999 lies behind the 512th call; the test shows the refusal all the same. */
    private static void promise15LastWeek() {
        Quizspool x = new Quizspool();
        for (int i = 0; i < 999; i++) {
            x.nextWeek();
        }
        Checks.due("the last week", 999, () -> x.week());
        Checks.dueThrow("nextWeek() of the week 999", Checks.STATE, () -> x.nextWeek());
        Checks.due("the last week stays", 999, () -> x.week());
        Checks.due("a plan for the last week", 0, () -> x.plan(999, 'e', 1));
    }

    private static void promise15PastPlansLetGo() {
        Quizspool x = Machines.withLevels(1, 2, 3);
        x.plan(0, 'e', 2);
        x.plan(1, 'e', 3);
        Checks.due("the later plan first", "2", () -> Machines.heldBy(x, 1));
        x.nextWeek();
        Checks.due("the past plan", 0, () -> x.held(0));
        Checks.due("the past plan lacks none", 0, () -> x.lacks(0));
        Checks.due("the later plan takes behind what it has", "2 0 1", () -> Machines.heldBy(x, 1));
        Checks.dueThrow("a quiz of a past plan", Checks.UNSUPPORTED, () -> x.quizOf(0));
        Checks.due("a past plan can be dropped", 0, () -> x.drop(0));
        Checks.dueThrow("but once", Checks.UNSUPPORTED, () -> x.drop(0));
        x.nextWeek();
        Checks.due("all free", "111", () -> Machines.freeOnes(x, 3));
    }

    private static void promise16Plan() {
        Quizspool x = Machines.withLevels(0, 40, 80, 33, 34, 67);
        Checks.due("plan of easy ones", 0, () -> x.plan(0, 'e', 9));
        Checks.due("plan of middle ones", 1, () -> x.plan(5, 'm', 1));
        Checks.due("plan of hard ones", 2, () -> x.plan(999, 'h', 2));
        Checks.due("easy ones held", "0 3", () -> Machines.heldBy(x, 0));
        Checks.due("a middle one held", "1", () -> Machines.heldBy(x, 1));
        Checks.due("hard ones held", "2 5", () -> Machines.heldBy(x, 2));
        for (int i = 3; i < 12; i++) {
            int number = i;
            Checks.due("plan " + i, number, () -> x.plan(7, 'h', 1));
        }
        x.drop(2);
        Checks.dueThrow("a plan beyond 12, one dropped", Checks.STATE, () -> x.plan(7, 'h', 1));
        Checks.dueThrow("a plan beyond 12 of no kind", Checks.ARGUMENT, () -> x.plan(7, 'x', 1));
        Checks.dueThrow("the plan 12", Checks.INDEX, () -> x.held(12));
    }

    private static void promise16RefusedPlans() {
        Quizspool x = Machines.withLevels(0);
        x.nextWeek();
        Checks.dueThrow("a past week", Checks.ARGUMENT, () -> x.plan(0, 'e', 1));
        Checks.dueThrow("a negative week", Checks.ARGUMENT, () -> x.plan(-1, 'e', 1));
        Checks.dueThrow("the week 1000", Checks.ARGUMENT, () -> x.plan(1000, 'e', 1));
        Checks.dueThrow("the kind E", Checks.ARGUMENT, () -> x.plan(1, 'E', 1));
        Checks.dueThrow("the kind 0", Checks.ARGUMENT, () -> x.plan(1, (char) 0, 1));
        Checks.dueThrow("the kind 65535", Checks.ARGUMENT, () -> x.plan(1, (char) 65535, 1));
        Checks.dueThrow("for 0", Checks.ARGUMENT, () -> x.plan(1, 'e', 0));
        Checks.dueThrow("for -1", Checks.ARGUMENT, () -> x.plan(1, 'e', -1));
        Checks.dueThrow("for 10", Checks.ARGUMENT, () -> x.plan(1, 'e', 10));
        Checks.due("refused plans take none", true, () -> x.isFree(0));
        Checks.due("the first plan", 0, () -> x.plan(1, 'e', 1));
    }

    private static void promise17Drop() {
        Quizspool x = Machines.withLevels(1, 2, 3, 50);
        x.plan(4, 'e', 2);
        x.plan(0, 'e', 2);
        x.plan(0, 'h', 1);
        Checks.due("drop a plan with two", 2, () -> x.drop(0));
        Checks.due("it holds nothing", 0, () -> x.held(0));
        Checks.dueThrow("nothing to look at", Checks.NO_SUCH, () -> x.heldAt(0, 0));
        Checks.due("the other takes one", "2 0", () -> Machines.heldBy(x, 1));
        Checks.due("one is free", "0101", () -> Machines.freeOnes(x, 4));
        Checks.due("drop a plan without any", 0, () -> x.drop(2));
        Checks.dueThrow("drop again", Checks.UNSUPPORTED, () -> x.drop(0));
        Checks.dueThrow("drop(3)", Checks.INDEX, () -> x.drop(3));
        Checks.dueThrow("drop(-1)", Checks.INDEX, () -> x.drop(-1));
        Machines.addQuestion(x, 70, 1);
        Checks.due("a dropped plan takes none", 0, () -> x.held(2));
        x.nextWeek();
        Checks.dueThrow("quizOf a dropped plan", Checks.UNSUPPORTED, () -> x.quizOf(0));
    }

    private static void promise18And19HeldInTheOrderTaken() {
        Quizspool x = Machines.withLevels(1, 2);
        x.quiz(0, 1, 0, 0);
        x.plan(9, 'e', 2);
        Checks.due("held(0)", 1, () -> x.held(0));
        Checks.due("heldAt(0, 0)", 1, () -> x.heldAt(0, 0));
        x.cancel(0);
        Checks.due("held(0) behind the cancel", 2, () -> x.held(0));
        Checks.due("the one taken first is first", 1, () -> x.heldAt(0, 0));
        Checks.due("the one taken last is last", 0, () -> x.heldAt(0, 1));
        Checks.dueThrow("heldAt(0, 2)", Checks.NO_SUCH, () -> x.heldAt(0, 2));
        Checks.dueThrow("heldAt(0, -1)", Checks.NO_SUCH, () -> x.heldAt(0, -1));
        Checks.dueThrow("heldAt(1, 0)", Checks.INDEX, () -> x.heldAt(1, 0));
        Checks.dueThrow("heldAt(-1, 0)", Checks.INDEX, () -> x.heldAt(-1, 0));
        Checks.dueThrow("held(1)", Checks.INDEX, () -> x.held(1));
        Checks.dueThrow("held(-1)", Checks.INDEX, () -> x.held(-1));
    }

    private static void promise20Lacks() {
        Quizspool x = Machines.withLevels(1, 2, 50);
        x.plan(0, 'e', 9);
        x.plan(1, 'm', 1);
        x.plan(1, 'h', 4);
        Checks.due("lacks(0)", 7, () -> x.lacks(0));
        Checks.due("lacks(1)", 0, () -> x.lacks(1));
        Checks.due("lacks(2)", 4, () -> x.lacks(2));
        Checks.dueThrow("lacks(3)", Checks.INDEX, () -> x.lacks(3));
        Checks.dueThrow("lacks(-1)", Checks.INDEX, () -> x.lacks(-1));
        x.nextWeek();
        Checks.due("lacks of a past plan", 0, () -> x.lacks(0));
        Checks.due("lacks of a plan of this week", 4, () -> x.lacks(2));
        x.drop(2);
        Checks.due("lacks of a dropped plan", 0, () -> x.lacks(2));
    }

    private static void promise21IsFree() {
        Quizspool x = Machines.withLevels(1, 50, 90);
        Checks.dueThrow("isFree(3)", Checks.INDEX, () -> x.isFree(3));
        Checks.dueThrow("isFree(-1)", Checks.INDEX, () -> x.isFree(-1));
        Checks.due("all free first", "111", () -> Machines.freeOnes(x, 3));
        x.plan(1, 'h', 1);
        x.quiz(0, 1, 0, 0);
        Checks.due("held by a plan and a sheet", "010", () -> Machines.freeOnes(x, 3));
        x.nextWeek();
        x.print();
        Checks.due("printed in this week", "010", () -> Machines.freeOnes(x, 3));
        x.nextWeek();
        Checks.due("printed a week ago, the plan past", "011", () -> Machines.freeOnes(x, 3));
        x.nextWeek();
        Checks.due("printed 2 weeks ago", "011", () -> Machines.freeOnes(x, 3));
        x.nextWeek();
        Checks.due("printed 3 weeks ago", "111", () -> Machines.freeOnes(x, 3));
    }

    private static void twinsInPlans() {
        Quizspool x = Machines.withLevels(1, 2, 3, 4, 90);
        x.plan(2, 'e', 3);
        x.twin(2, 0);
        Checks.due("the later taken twin goes, another comes", "0 1 3", () -> Machines.heldBy(x, 0));
        x.twin(1, 4);
        Checks.due("a twin of another kind is no matter", "0 1 3", () -> Machines.heldBy(x, 0));
        x.twin(4, 0);
        Checks.due("twins through another one", "0 3", () -> Machines.heldBy(x, 0));
        Checks.due("twins are not taken", 1, () -> x.lacks(0));
        x.plan(2, 'e', 2);
        Checks.due("another plan takes one of the twins", "1", () -> Machines.heldBy(x, 1));
    }

    /** The question 0 is printed in the week 0, held by a plan from the week 3 on, then answered. */
    private static void shiftedLevelsMoveBetweenPlans() {
        Quizspool x = Machines.withLevels(33, 34, 10);
        x.quiz(0, 1, 0, 0);
        x.print();
        x.plan(9, 'm', 2);
        x.plan(9, 'e', 1);
        x.plan(9, 'e', 1);
        Checks.due("the middle one", "1", () -> Machines.heldBy(x, 0));
        Checks.due("the easy one", "2", () -> Machines.heldBy(x, 1));
        x.nextWeek();
        x.nextWeek();
        x.nextWeek();
        Checks.due("the printed one is free and taken", "0", () -> Machines.heldBy(x, 2));
        Checks.due("answer", 40, () -> x.answer(0, 0, false));
        Checks.due("it goes", 0, () -> x.held(2));
        Checks.due("a plan of a lesser number takes it", "1 0", () -> Machines.heldBy(x, 0));
        Checks.due("sound", true, () -> x.isSound());
    }
}
