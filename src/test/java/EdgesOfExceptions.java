import java.util.function.Supplier;

/** What the document's terms say of exceptions: nothing changes, and the one listed first is thrown. */
final class EdgesOfExceptions {
    private EdgesOfExceptions() {
    }

    static void run() {
        Edges.test("Terms", "A method that throws an exception changes nothing.",
                EdgesOfExceptions::changesNothing);
        Edges.test("Terms", "If several exceptions apply, the one that is listed first is thrown.", () -> {
            firstOfTheBank();
            firstOfThePlans();
            firstOfQuizzes();
            firstOfSheets();
        });
    }

    /** All that a busy machine can refuse, one behind the other, in one machine. */
    private static void changesNothing() {
        Edges.Use[] calls = {
            x -> x.type(30), x -> x.add(101), x -> x.twin(0, 8), x -> x.twin(1, 1), x -> x.areTwins(8, 0),
            x -> x.wordAt(8, 0), x -> x.wordAt(0, 2), x -> x.level(8), x -> x.levelAnew(8), x -> x.kind(8),
            x -> x.hitAt(8), x -> x.rankAt(8), x -> x.plan(0, 'e', 1), x -> x.plan(1, 'x', 1),
            x -> x.plan(1, 'e', 10), x -> x.drop(4), x -> x.drop(3), x -> x.held(4), x -> x.heldAt(4, 0),
            x -> x.heldAt(1, 2), x -> x.lacks(4), x -> x.isFree(8), x -> x.quiz(1009, 1, 0, 0),
            x -> x.quiz(0, 0, 0, 0), x -> x.quiz(0, 1, 1, 0), x -> x.quizOf(4), x -> x.quizOf(2), x -> x.size(4),
            x -> x.questionAt(4, 0), x -> x.questionAt(0, 2), x -> x.stateOf(4), x -> x.cancel(4),
            x -> x.cancel(0), x -> x.answer(4, 0, true), x -> x.answer(1, 0, true), x -> x.answer(0, 0, true),
            x -> x.answer(0, 2, true), x -> x.textOf(4, 0), x -> x.textOf(0, 5)};
        Quizspool x = Machines.busy();
        for (int i = 0; i < calls.length; i++) {
            Edges.Use call = calls[i];
            Checks.due("the call " + i + " is refused", true,
                    () -> Checks.told(() -> call.on(x)).startsWith("throws."));
        }
        Checks.due("what stands behind them all", Story.of(Machines.busy()), () -> Story.of(x));
    }

    private static Quizspool withWord(Supplier<Quizspool> made, int count) {
        Quizspool x = made.get();
        for (int i = 0; i < count; i++) {
            x.type(0);
        }
        return x;
    }

    private static void firstOfTheBank() {
        Edges.refused("type: no such word, and a full row", Checks.ARGUMENT,
                () -> withWord(Quizspool::new, 6), x -> x.type(30));
        Edges.refused("add: no such level, and an empty row", Checks.ARGUMENT, Quizspool::new, x -> x.add(101));
        Edges.refused("add: no such level, and 40 questions", Checks.ARGUMENT,
                () -> withWord(Machines::full, 1), x -> x.add(-1));
        Edges.refused("add: an empty row, and 40 questions", Checks.UNSUPPORTED, Machines::full, x -> x.add(0));
        Edges.refused("add: all three", Checks.ARGUMENT, Machines::full, x -> x.add(101));
        for (int number : new int[] {-1, 8}) {
            Edges.refused("twin: no such question, and the same", Checks.INDEX, Machines::busy,
                    x -> x.twin(number, number));
            Edges.refused("wordAt: no such question, and no such word", Checks.INDEX, Machines::busy,
                    x -> x.wordAt(number, number));
        }
        Edges.refused("wordAt: no question at all", Checks.INDEX, Quizspool::new, x -> x.wordAt(0, 6));
    }

    private static void firstOfThePlans() {
        Edges.refused("plan: no such week, and 12 plans", Checks.ARGUMENT, Machines::full,
                x -> x.plan(1000, 'e', 1));
        Edges.refused("plan: no such kind, and 12 plans", Checks.ARGUMENT, Machines::full,
                x -> x.plan(0, 'x', 1));
        Edges.refused("plan: no such number, and 12 plans", Checks.ARGUMENT, Machines::full,
                x -> x.plan(0, 'e', 10));
        for (int number : new int[] {-1, 4}) {
            Edges.refused("heldAt: no such plan, and no such question", Checks.INDEX, Machines::busy,
                    x -> x.heldAt(number, number));
        }
    }

    /** 30 sheets, no question that is free, and a plan of this week that holds one and one that holds none. */
    private static Quizspool spent() {
        Quizspool x = Machines.alike(31, 1);
        x.plan(0, 'e', 1);
        x.plan(0, 'm', 1);
        for (int i = 0; i < 30; i++) {
            x.quiz(0, 1, 0, 0);
        }
        return x;
    }

    private static void firstOfQuizzes() {
        Edges.refused("quiz: no such seed, and no candidates", Checks.ARGUMENT, Quizspool::new,
                x -> x.quiz(1009, 1, 0, 0));
        Edges.refused("quiz: nothing wanted, and 30 sheets", Checks.ARGUMENT, Machines::full,
                x -> x.quiz(0, 0, 0, 0));
        Edges.refused("quiz: no such number, and 30 sheets", Checks.ARGUMENT, Machines::full,
                x -> x.quiz(0, 1, 0, 10));
        Edges.refused("quiz: no candidates, and 30 sheets", Checks.NO_SUCH, EdgesOfExceptions::spent,
                x -> x.quiz(0, 1, 0, 0));
        Edges.refused("quiz: all three", Checks.ARGUMENT, EdgesOfExceptions::spent, x -> x.quiz(-1, 1, 0, 0));
        Edges.refused("quizOf: no such plan, and 30 sheets", Checks.INDEX, EdgesOfExceptions::spent,
                x -> x.quizOf(2));
        Edges.refused("quizOf: a plan that holds nothing, and 30 sheets", Checks.UNSUPPORTED,
                EdgesOfExceptions::spent, x -> x.quizOf(1));
        Edges.refused("quizOf: a plan of a later week, and 30 sheets", Checks.UNSUPPORTED, Machines::full,
                x -> x.quizOf(0));
        Edges.refused("quizOf: a dropped plan, and 30 sheets", Checks.UNSUPPORTED, () -> {
            Quizspool x = spent();
            x.drop(0);
            return x;
        }, x -> x.quizOf(0));
    }

    private static void firstOfSheets() {
        Edges.refused("print: a jam, and none waits", Checks.STATE, () -> {
            Quizspool x = new Quizspool();
            x.setJam(true);
            return x;
        }, x -> x.print());
        for (int number : new int[] {-1, 4}) {
            Edges.refused("questionAt: no such sheet, and no such question", Checks.INDEX, Machines::busy,
                    x -> x.questionAt(number, number));
            Edges.refused("textOf: no such sheet, and no such letter", Checks.INDEX, Machines::busy,
                    x -> x.textOf(number, -1));
            Edges.refused("answer: no such sheet, and no such question", Checks.INDEX, Machines::busy,
                    x -> x.answer(number, number, true));
            Edges.refused("answer: a sheet that waits, and no such question", Checks.UNSUPPORTED,
                    Machines::busy, x -> x.answer(1, number, true));
            Edges.refused("answer: a cancelled sheet, and no such question", Checks.UNSUPPORTED,
                    Machines::busy, x -> x.answer(2, number, true));
        }
    }
}
