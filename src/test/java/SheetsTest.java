/** Promises 22 to 32: quizzes, sheets, the spooler and a sheet's text. */
public final class SheetsTest {
    public static void main(String[] args) {
        promise22Quiz();
        promise22RefusedQuizzes();
        promise22TwinsAndHeldOnesAreNoCandidates();
        promise22And23ThirtySheets();
        promise23QuizOf();
        promise24And25SizeAndQuestionAt();
        promise26StateOf();
        promise27Waiting();
        promise28SetJam();
        promise29Print();
        promise30Cancel();
        promise31Answer();
        promise32TextOf();
        Checks.finish("SheetsTest");
    }

    private static void promise22Quiz() {
        Quizspool x = Machines.withLevels(90, 0, 40, 1, 41, 2, 91, 3, 42);
        Checks.due("a quiz of all kinds", 0, () -> x.quiz(10, 2, 2, 1));
        // Draws: 10 of 1 3 5 7, 53 of 1 3 7, 268 of 2 4 8, 334 of 2 8 or 4 8, 664 of 0 6.
        Checks.due("its questions", "5 7 4 2 0", () -> Machines.questionsOf(x, 0));
        Checks.due("they are not free", "010100101", () -> Machines.freeOnes(x, 9));
        Checks.due("a quiz of one kind", 1, () -> x.quiz(1008, 0, 1, 0));
        Checks.due("its question", "8", () -> Machines.questionsOf(x, 1));
        Checks.due("the greatest seed", 2, () -> x.quiz(1008, 2, 0, 1));
        // Draws: 1008 of 1 3, then 1008 * 5 + 3 modulo 1009 = 1007 of 3, then 1002 of 6.
        Checks.due("its questions", "1 3 6", () -> Machines.questionsOf(x, 2));
    }

    private static void promise22RefusedQuizzes() {
        Quizspool x = Machines.withLevels(0, 1, 40);
        int[][] wrong = {{-1, 1, 0, 0}, {1009, 1, 0, 0}, {0, -1, 1, 1}, {0, 10, 0, 0}, {0, 1, -1, 1},
            {0, 1, 10, 0}, {0, 1, 1, -1}, {0, 0, 0, 10}, {0, 0, 0, 0}, {0, 1, -1, 0},
            {0, Integer.MAX_VALUE, Integer.MAX_VALUE, 2}, {Integer.MIN_VALUE, 1, 0, 0}};
        for (int[] w : wrong) {
            Checks.dueThrow("quiz" + java.util.Arrays.toString(w), Checks.ARGUMENT,
                    () -> x.quiz(w[0], w[1], w[2], w[3]));
        }
        Checks.dueThrow("no hard one", Checks.NO_SUCH, () -> x.quiz(0, 1, 1, 1));
        Checks.dueThrow("no third easy one", Checks.NO_SUCH, () -> x.quiz(0, 3, 0, 0));
        Checks.due("refused quizzes hold none", "111", () -> Machines.freeOnes(x, 3));
        Checks.due("refused quizzes spool none", 0, () -> x.waiting());
        Checks.due("the first quiz", 0, () -> x.quiz(0, 2, 1, 0));
    }

    private static void promise22TwinsAndHeldOnesAreNoCandidates() {
        Quizspool x = Machines.withLevels(0, 40, 80, 41);
        x.twin(0, 1);
        x.plan(1, 'h', 1);
        Checks.dueThrow("a held hard one", Checks.NO_SUCH, () -> x.quiz(0, 0, 0, 1));
        x.quiz(0, 1, 1, 0);
        Checks.due("no twin of another kind", "0 3", () -> Machines.questionsOf(x, 0));
        Checks.due("the twin alone", 1, () -> x.quiz(0, 0, 1, 0));
        Checks.due("it is free though its twin waits", "1", () -> Machines.questionsOf(x, 1));
        x.print();
        x.nextWeek();
        Checks.dueThrow("one that was printed", Checks.NO_SUCH, () -> x.quiz(0, 1, 0, 0));
    }

    private static void promise22And23ThirtySheets() {
        Quizspool x = Machines.withLevels(0, 1, 40);
        x.plan(0, 'm', 1);
        x.plan(0, 'h', 1);
        for (int i = 0; i < 30; i++) {
            int sheet = i;
            Checks.due("the sheet " + i, sheet, () -> x.quiz(0, 1, 0, 0));
            x.cancel(i);
        }
        Checks.dueThrow("a quiz beyond 30", Checks.STATE, () -> x.quiz(0, 2, 0, 0));
        Checks.dueThrow("a quiz beyond 30, no candidates", Checks.NO_SUCH, () -> x.quiz(0, 3, 0, 0));
        Checks.dueThrow("a quiz beyond 30, no such seed", Checks.ARGUMENT, () -> x.quiz(-1, 1, 0, 0));
        Checks.dueThrow("a quiz of a plan beyond 30", Checks.STATE, () -> x.quizOf(0));
        Checks.dueThrow("a quiz of a plan that has none", Checks.UNSUPPORTED, () -> x.quizOf(1));
        Checks.dueThrow("a quiz of no plan", Checks.INDEX, () -> x.quizOf(2));
        Checks.due("the plan holds it still", "2", () -> Machines.heldBy(x, 0));
        Checks.due("none held by refused quizzes", "110", () -> Machines.freeOnes(x, 3));
        Checks.dueThrow("the sheet 30", Checks.INDEX, () -> x.stateOf(30));
    }

    private static void promise23QuizOf() {
        Quizspool x = Machines.withLevels(1, 2, 3, 4);
        x.quiz(0, 1, 0, 0);
        x.plan(1, 'e', 3);
        x.plan(2, 'e', 1);
        x.plan(1, 'h', 1);
        Checks.dueThrow("a plan of a later week", Checks.UNSUPPORTED, () -> x.quizOf(0));
        x.drop(1);
        x.cancel(0);
        x.twin(1, 3);
        Checks.due("the order in which it took", "1 2 0", () -> Machines.heldBy(x, 0));
        x.nextWeek();
        Checks.dueThrow("a plan that holds nothing", Checks.UNSUPPORTED, () -> x.quizOf(2));
        Checks.dueThrow("a dropped plan", Checks.UNSUPPORTED, () -> x.quizOf(1));
        Checks.dueThrow("quizOf(3)", Checks.INDEX, () -> x.quizOf(3));
        Checks.dueThrow("quizOf(-1)", Checks.INDEX, () -> x.quizOf(-1));
        Checks.due("a plan of this week", 1, () -> x.quizOf(0));
        Checks.due("all questions in their order", "1 2 0", () -> Machines.questionsOf(x, 1));
        Checks.due("the sheet waits", 's', () -> x.stateOf(1));
        Checks.due("the sheet holds them", "0001", () -> Machines.freeOnes(x, 4));
        Checks.due("the plan holds nothing", 0, () -> x.held(0));
        Checks.due("the plan lacks nothing", 0, () -> x.lacks(0));
        Checks.dueThrow("the plan is dropped", Checks.UNSUPPORTED, () -> x.drop(0));
        Checks.dueThrow("no second quiz of it", Checks.UNSUPPORTED, () -> x.quizOf(0));
    }

    private static void promise24And25SizeAndQuestionAt() {
        int[] levels = new int[40];
        for (int i = 0; i < 40; i++) {
            levels[i] = i % 3 * 40;
        }
        Quizspool x = Machines.withLevels(levels);
        x.quiz(3, 9, 9, 9);
        x.quiz(3, 1, 0, 1);
        Checks.due("the greatest size", 27, () -> x.size(0));
        Checks.due("size(1)", 2, () -> x.size(1));
        Checks.dueThrow("size(2)", Checks.INDEX, () -> x.size(2));
        Checks.dueThrow("size(-1)", Checks.INDEX, () -> x.size(-1));
        Checks.due("questionAt(0, 0), 3 of 14", 9, () -> x.questionAt(0, 0));
        Checks.due("questionAt(1, 0), 3 of 5", true, () -> x.kind(x.questionAt(1, 0)) == 'e');
        Checks.dueThrow("questionAt(0, 27)", Checks.NO_SUCH, () -> x.questionAt(0, 27));
        Checks.dueThrow("questionAt(0, -1)", Checks.NO_SUCH, () -> x.questionAt(0, -1));
        Checks.dueThrow("questionAt(2, 0)", Checks.INDEX, () -> x.questionAt(2, 0));
        Checks.dueThrow("questionAt(-1, -1)", Checks.INDEX, () -> x.questionAt(-1, -1));
        x.cancel(1);
        x.print();
        Checks.due("the size of a printed sheet", 27, () -> x.size(0));
        Checks.due("the size of a cancelled sheet", 2, () -> x.size(1));
    }

    private static void promise26StateOf() {
        Quizspool x = Machines.withLevels(0, 1);
        Checks.dueThrow("stateOf(0)", Checks.INDEX, () -> x.stateOf(0));
        x.quiz(0, 1, 0, 0);
        x.quiz(0, 1, 0, 0);
        Checks.due("a spooled one", 's', () -> x.stateOf(0));
        x.print();
        x.cancel(1);
        Checks.due("a printed one", 'p', () -> x.stateOf(0));
        Checks.due("a cancelled one", 'c', () -> x.stateOf(1));
        Checks.dueThrow("stateOf(2)", Checks.INDEX, () -> x.stateOf(2));
        Checks.dueThrow("stateOf(-1)", Checks.INDEX, () -> x.stateOf(-1));
    }

    private static void promise27Waiting() {
        Quizspool x = Machines.withLevels(0, 1, 2);
        for (int i = 0; i < 3; i++) {
            x.quiz(0, 1, 0, 0);
        }
        Checks.due("three wait", 3, () -> x.waiting());
        x.setJam(true);
        Checks.due("three wait in a jam", 3, () -> x.waiting());
        x.cancel(1);
        Checks.due("two wait", 2, () -> x.waiting());
        x.setJam(false);
        x.print();
        Checks.due("one waits", 1, () -> x.waiting());
    }

    private static void promise28SetJam() {
        Quizspool x = new Quizspool();
        Checks.due("setJam(true)", false, () -> x.setJam(true));
        Checks.due("setJam(true) again", true, () -> x.setJam(true));
        Checks.due("setJam(false)", true, () -> x.setJam(false));
        Checks.due("setJam(false) again", false, () -> x.setJam(false));
    }

    private static void promise29Print() {
        Quizspool x = Machines.withLevels(0, 1, 2, 3);
        Checks.dueThrow("none waits", Checks.NO_SUCH, () -> x.print());
        x.setJam(true);
        Checks.dueThrow("jammed, and none waits", Checks.STATE, () -> x.print());
        x.setJam(false);
        for (int i = 0; i < 4; i++) {
            x.quiz(0, 1, 0, 0);
        }
        x.cancel(0);
        Checks.due("the first that waits", 1, () -> x.print());
        x.setJam(true);
        Checks.dueThrow("jammed", Checks.STATE, () -> x.print());
        Checks.due("a jam prints none", 's', () -> x.stateOf(2));
        x.setJam(false);
        Checks.due("the next one", 2, () -> x.print());
        Checks.due("the last one", 3, () -> x.print());
        Checks.dueThrow("none waits any more", Checks.NO_SUCH, () -> x.print());
        Checks.due("printed ones are not free", "1000", () -> Machines.freeOnes(x, 4));
    }

    private static void promise30Cancel() {
        Quizspool x = Machines.withLevels(0, 1, 2, 50);
        x.quiz(0, 3, 0, 0);
        x.quiz(0, 0, 1, 0);
        x.plan(4, 'e', 1);
        Checks.due("nothing to take", 1, () -> x.lacks(0));
        Checks.due("cancel(0)", 3, () -> x.cancel(0));
        Checks.due("a plan takes one of them", "0", () -> Machines.heldBy(x, 0));
        Checks.due("the others are free", "0110", () -> Machines.freeOnes(x, 4));
        Checks.dueThrow("cancel again", Checks.UNSUPPORTED, () -> x.cancel(0));
        x.print();
        Checks.dueThrow("cancel a printed one", Checks.UNSUPPORTED, () -> x.cancel(1));
        Checks.dueThrow("cancel(2)", Checks.INDEX, () -> x.cancel(2));
        Checks.dueThrow("cancel(-1)", Checks.INDEX, () -> x.cancel(-1));
        Checks.due("it stays printed", 'p', () -> x.stateOf(1));
    }

    private static void promise31Answer() {
        int[][] shifts = {{0, 0, 11}, {1, 0, 11}, {9, 8, 19}, {10, 8, 20}, {19, 17, 28}, {33, 29, 40},
            {50, 44, 56}, {66, 59, 70}, {90, 80, 92}, {91, 81, 92}, {99, 89, 100}, {100, 89, 100}};
        for (int[] s : shifts) {
            Checks.due("right at " + s[0], s[1], () -> printed(s[0]).answer(0, 0, true));
            Checks.due("wrong at " + s[0], s[2], () -> printed(s[0]).answer(0, 0, false));
        }
        Quizspool x = Machines.withLevels(20, 30, 90);
        x.quiz(0, 2, 0, 0);
        x.quiz(0, 0, 0, 1);
        Checks.dueThrow("answer(-1, 0)", Checks.INDEX, () -> x.answer(-1, 0, true));
        Checks.dueThrow("answer(2, 0)", Checks.INDEX, () -> x.answer(2, 0, true));
        Checks.dueThrow("a sheet that waits", Checks.UNSUPPORTED, () -> x.answer(0, 9, true));
        x.cancel(1);
        Checks.dueThrow("a cancelled sheet", Checks.UNSUPPORTED, () -> x.answer(1, 0, true));
        x.print();
        Checks.dueThrow("answer(0, 2)", Checks.NO_SUCH, () -> x.answer(0, 2, true));
        Checks.dueThrow("answer(0, -1)", Checks.NO_SUCH, () -> x.answer(0, -1, true));
        Checks.due("the second question", 27 - 1, () -> x.answer(0, 1, true));
        Checks.dueThrow("answered", Checks.NO_SUCH, () -> x.answer(0, 1, true));
        Checks.due("its level behind the refusal", 26, () -> x.level(1));
        Checks.due("answers behind the refusals", 1, () -> x.answers());
        Checks.due("the first question", 29, () -> x.answer(0, 0, false));
    }

    private static Quizspool printed(int level) {
        Quizspool x = Machines.withLevels(level);
        x.quiz(0, level < 34 ? 1 : 0, level >= 34 && level < 67 ? 1 : 0, level >= 67 ? 1 : 0);
        x.print();
        return x;
    }

    private static void promise32TextOf() {
        int[] levels = new int[13];
        Quizspool x = Machines.withLevels(levels);
        for (int i = 0; i < 10; i++) {
            x.quiz(0, 1, 0, 0);
            x.cancel(i);
        }
        x.plan(0, 'e', 9);
        x.plan(0, 'e', 9);
        x.quizOf(1);
        x.quizOf(0);
        Checks.due("a short text", "0:0", () -> Machines.textOf(x, 0));
        Checks.due("numbers of two digits", "10:9,10,11,12", () -> Machines.textOf(x, 10));
        Checks.due("nine questions", "11:0,1,2,3,4,5,6,7,8", () -> Machines.textOf(x, 11));
        Checks.dueThrow("textOf(0, 3)", Checks.NO_SUCH, () -> x.textOf(0, 3));
        Checks.dueThrow("textOf(0, -1)", Checks.NO_SUCH, () -> x.textOf(0, -1));
        Checks.dueThrow("textOf(12, 0)", Checks.INDEX, () -> x.textOf(12, 0));
        Checks.dueThrow("textOf(-1, -1)", Checks.INDEX, () -> x.textOf(-1, -1));
    }
}
