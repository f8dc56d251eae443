import java.util.function.Supplier;

/** The edges that the promises 22 to 32 name: quizzes, sheets, the spooler and answers. */
final class EdgesOfSheets {
    private static final int[] FAR = {Integer.MIN_VALUE, Integer.MAX_VALUE};

    private EdgesOfSheets() {
    }

    static void run() {
        quiz();
        wrongNumbersOfQuizzes();
        refusedQuizzes();
        quizOf();
        size();
        questionAt();
        stateOf();
        spooler();
        print();
        cancel();
        answer();
        refusedAnswers();
        textOf();
    }

    /** So many sheets, each with a question of its own, none printed or cancelled. */
    private static Quizspool withSheets(int count) {
        Quizspool x = Machines.alike(40, 1);
        for (int i = 0; i < count; i++) {
            x.quiz(0, 1, 0, 0);
        }
        return x;
    }

    /** The sheet 0 waits with nine questions of each kind, of 20 easy ones and 10 of either other kind. */
    private static Quizspool greatest() {
        int[] levels = new int[40];
        for (int i = 0; i < 40; i++) {
            levels[i] = i % 4 * 30;
        }
        Quizspool x = Machines.withLevels(levels);
        x.quiz(0, 9, 9, 9);
        return x;
    }

    private static Quizspool printed(Supplier<Quizspool> made) {
        Quizspool x = made.get();
        x.print();
        return x;
    }

    private static Quizspool cancelled(Supplier<Quizspool> made, int sheet) {
        Quizspool x = made.get();
        x.cancel(sheet);
        return x;
    }

    private static void quiz() {
        Edges.test("Promise 22", "- `seed`: the seed, 0 to 1008", () -> {
            Quizspool x = Machines.alike(40, 1);
            Checks.due("the least seed", 0, () -> x.quiz(0, 1, 0, 0));
            Checks.due("the place 0 of 40", "0", () -> Machines.questionsOf(x, 0));
            Checks.due("the greatest seed", 1, () -> x.quiz(1008, 1, 0, 0));
            Checks.due("the place 1008 modulo 39, of 1 to 39", "34", () -> Machines.questionsOf(x, 1));
        });
        Edges.test("Promise 22", "- `easy`: how many easy ones, 0 to 9", () -> {
            Checks.due("no easy one", "1", () -> drawnOf(0, 1, 0));
            Checks.due("nine easy ones", 9, () -> sizeOf(9, 0, 0));
        });
        Edges.test("Promise 22", "- `middle`: how many of the middle kind, 0 to 9", () -> {
            Checks.due("none of the middle kind", "0 2", () -> drawnOf(1, 0, 1));
            Checks.due("nine of the middle kind", 9, () -> sizeOf(0, 9, 0));
        });
        Edges.test("Promise 22", "- `hard`: how many hard ones, 0 to 9", () -> {
            Checks.due("no hard one", "0 1", () -> drawnOf(1, 1, 0));
            Checks.due("nine hard ones", 9, () -> sizeOf(0, 0, 9));
        });
        Edges.test("Promise 22", "Returns the number of the sheet.", () -> {
            Checks.due("the first sheet", 0, () -> withSheets(0).quiz(0, 1, 0, 0));
            Checks.due("the last sheet", 29, () -> withSheets(29).quiz(0, 1, 0, 0));
        });
    }

    private static String drawnOf(int easy, int middle, int hard) {
        Quizspool x = Machines.withLevels(0, 50, 100);
        x.quiz(0, easy, middle, hard);
        return Machines.questionsOf(x, 0);
    }

    private static int sizeOf(int easy, int middle, int hard) {
        Quizspool x = cancelled(EdgesOfSheets::greatest, 0);
        return x.size(x.quiz(0, easy, middle, hard));
    }

    private static void wrongNumbersOfQuizzes() {
        Edges.test("Promise 22",
            "Throws `IllegalArgumentException` if a number is out of range, or no question is wanted", () -> {
                for (int seed : new int[] {-1, 1009, FAR[0], FAR[1]}) {
                    refusedQuiz(Checks.ARGUMENT, seed, 1, 0, 0);
                }
                for (int many : new int[] {-1, 10, FAR[0], FAR[1]}) {
                    refusedQuiz(Checks.ARGUMENT, 0, many, 0, 0);
                    refusedQuiz(Checks.ARGUMENT, 0, 1, many, 0);
                    refusedQuiz(Checks.ARGUMENT, 0, 1, 0, many);
                }
                refusedQuiz(Checks.ARGUMENT, 0, 0, 0, 0);
                refusedQuiz(Checks.ARGUMENT, 1008, 0, 0, 0);
                refusedQuiz(Checks.ARGUMENT, 0, -1, 1, 1);
                refusedQuiz(Checks.ARGUMENT, 0, 1, -1, 1);
                refusedQuiz(Checks.ARGUMENT, 0, 1, 1, -1);
                refusedQuiz(Checks.ARGUMENT, 0, FAR[1], FAR[1], 2);
            });
    }

    /** A machine has a candidate of each kind, so that nothing but the numbers can be refused. */
    private static void refusedQuiz(Class<? extends RuntimeException> want, int seed, int easy, int middle,
            int hard) {
        Edges.refused("quiz(" + seed + ", " + easy + ", " + middle + ", " + hard + ")", want, () -> {
            Quizspool x = Machines.busy();
            x.drop(1);
            x.drop(2);
            return x;
        }, x -> x.quiz(seed, easy, middle, hard));
    }

    private static void refusedQuizzes() {
        Edges.test("Promise 22", "Throws `NoSuchElementException` if there are no candidates for one of them",
            () -> {
                Edges.refused("a quiz without questions", Checks.NO_SUCH, Quizspool::new,
                        x -> x.quiz(0, 1, 0, 0));
                refusedQuiz(Checks.NO_SUCH, 0, 2, 0, 0);
                refusedQuiz(Checks.NO_SUCH, 0, 1, 3, 0);
                refusedQuiz(Checks.NO_SUCH, 0, 1, 1, 2);
                Edges.refused("the one hard one is held by a plan", Checks.NO_SUCH, Machines::busy,
                        x -> x.quiz(0, 0, 0, 1));
                Edges.refused("the one easy one waits", Checks.NO_SUCH, EdgesOfSheets::oneWaits,
                        x -> x.quiz(0, 1, 0, 0));
                Edges.refused("the one easy one was printed", Checks.NO_SUCH,
                        () -> printed(EdgesOfSheets::oneWaits), x -> x.quiz(0, 1, 0, 0));
                Edges.refused("the others are twins of it", Checks.NO_SUCH, () -> {
                    Quizspool x = Machines.withLevels(1, 50, 90, 51);
                    x.twin(0, 1);
                    x.twin(1, 3);
                    return x;
                }, x -> x.quiz(0, 1, 1, 0));
                Checks.due("the last of either kind", 1, () -> greatest().quiz(0, 9, 1, 1));
                Edges.refused("one behind the last of the middle kind", Checks.NO_SUCH,
                        EdgesOfSheets::greatest, x -> x.quiz(0, 9, 2, 1));
                Edges.refused("one behind the last hard one", Checks.NO_SUCH, EdgesOfSheets::greatest,
                        x -> x.quiz(0, 9, 1, 2));
            });
        Edges.test("Promise 22", "Throws `IllegalStateException` if there are 30 sheets", () -> {
            Edges.refused("the sheet 31, 30 waiting", Checks.STATE, () -> withSheets(30),
                    x -> x.quiz(0, 9, 0, 0));
            Edges.refused("the sheet 31, 28 cancelled", Checks.STATE, Machines::full, x -> x.quiz(0, 1, 1, 0));
        });
    }

    private static Quizspool oneWaits() {
        Quizspool x = Machines.withLevels(1, 50);
        x.quiz(0, 1, 0, 0);
        return x;
    }

    private static void quizOf() {
        Edges.test("Promise 23", "- `plan`: the number of the plan", () -> {
            Checks.due("the first plan", 0, () -> twelvePlans().quizOf(0));
            Checks.due("the last plan", 0, () -> twelvePlans().quizOf(11));
        });
        Edges.test("Promise 23", "Returns the number of the sheet.", () -> {
            Quizspool x = withSheets(29);
            x.plan(0, 'e', 9);
            Checks.due("the last sheet", 29, () -> x.quizOf(0));
            Checks.due("with all nine", 9, () -> x.size(29));
        });
        Edges.test("Promise 23", "Throws `IndexOutOfBoundsException` if there is no such plan", () ->
            Edges.noSuchPlan("quizOf", Quizspool::quizOf));
        Edges.test("Promise 23",
            "Throws `UnsupportedOperationException` if it is not of this week, is dropped, or holds nothing",
            () -> {
                Edges.refused("of a past week", Checks.UNSUPPORTED, Machines::busy, x -> x.quizOf(0));
                Edges.refused("of a later week", Checks.UNSUPPORTED, Machines::busy, x -> x.quizOf(2));
                Edges.refused("dropped", Checks.UNSUPPORTED, () -> {
                    Quizspool x = Machines.busy();
                    x.drop(1);
                    return x;
                }, x -> x.quizOf(1));
                Edges.refused("a second quiz of it", Checks.UNSUPPORTED, () -> {
                    Quizspool x = Machines.busy();
                    x.quizOf(1);
                    return x;
                }, x -> x.quizOf(1));
                Edges.refused("holding nothing", Checks.UNSUPPORTED, () -> {
                    Quizspool x = Machines.withLevels(50);
                    x.plan(0, 'e', 1);
                    return x;
                }, x -> x.quizOf(0));
                Checks.due("of this week, holding one", 0, () -> twelvePlans().quizOf(5));
            });
        Edges.test("Promise 23", "Throws `IllegalStateException` if there are 30 sheets", () ->
            Edges.refused("a sheet 31 of a plan", Checks.STATE, () -> {
                Quizspool x = withSheets(30);
                x.plan(0, 'e', 9);
                return x;
            }, x -> x.quizOf(0)));
    }

    /** Each plan is of this week and holds one question. */
    private static Quizspool twelvePlans() {
        Quizspool x = Machines.alike(12, 1);
        for (int i = 0; i < 12; i++) {
            x.plan(0, 'e', 1);
        }
        return x;
    }

    private static void size() {
        Edges.test("Promise 24", "- `sheet`: the number of the sheet", () ->
            Edges.ends("size", Machines::full, 1, 29, 1, Quizspool::size));
        Edges.test("Promise 24", "Returns the number of questions.", () -> {
            Checks.due("the least", 1, () -> withSheets(1).size(0));
            Checks.due("the most", 27, () -> greatest().size(0));
            Checks.due("of a printed sheet", 2, () -> Machines.busy().size(0));
            Checks.due("of a cancelled sheet", 1, () -> Machines.busy().size(2));
        });
        Edges.test("Promise 24", "Throws `IndexOutOfBoundsException` if there is no such sheet", () ->
            Edges.noSuchSheet("size", Quizspool::size));
    }

    private static void questionAt() {
        Edges.test("Promise 25", "- `sheet`: the number of the sheet", () ->
            Edges.ends("questionAt", Machines::full, 0, 29, 19, (x, number) -> x.questionAt(number, 0)));
        Edges.test("Promise 25", "- `index`: the index, from 0", () -> {
            Edges.ends("questionAt of two", Machines::full, 0, 1, 4, (x, i) -> x.questionAt(28, i));
            Edges.ends("questionAt of 27", EdgesOfSheets::greatest, 'e', 26, 'h',
                    (x, i) -> x.kind(x.questionAt(0, i)));
        });
        Edges.test("Promise 25", "Throws `IndexOutOfBoundsException` if there is no such sheet", () ->
            Edges.noSuchSheet("questionAt", (x, number) -> x.questionAt(number, 0)));
        Edges.test("Promise 25", "Throws `NoSuchElementException` if there is no such question", () -> {
            Edges.noSuch("questionAt of one", Checks.NO_SUCH, Machines::busy, 1, (x, i) -> x.questionAt(1, i));
            Edges.noSuch("questionAt of two", Checks.NO_SUCH, Machines::busy, 2, (x, i) -> x.questionAt(0, i));
            Edges.noSuch("questionAt of 27", Checks.NO_SUCH, EdgesOfSheets::greatest, 27,
                    (x, i) -> x.questionAt(0, i));
        });
    }

    private static void stateOf() {
        Edges.test("Promise 26", "- `sheet`: the number of the sheet", () ->
            Edges.ends("stateOf", Machines::full, 'c', 29, 's', Quizspool::stateOf));
        Edges.test("Promise 26", "Throws `IndexOutOfBoundsException` if there is no such sheet", () ->
            Edges.noSuchSheet("stateOf", Quizspool::stateOf));
    }

    private static void spooler() {
        Edges.test("Promise 27", "Returns how many sheets wait.", () -> {
            Checks.due("none", 0, () -> new Quizspool().waiting());
            Checks.due("all 30", 30, () -> withSheets(30).waiting());
            Checks.due("but printed and cancelled ones", 1, () -> Machines.full().waiting());
        });
        Edges.test("Promise 28", "- `is`: whether it is jammed then", () -> {
            Quizspool x = Machines.busy();
            x.setJam(true);
            Checks.dueThrow("print when it is jammed", Checks.STATE, () -> x.print());
            x.setJam(false);
            Checks.due("print when it is mended", 1, () -> x.print());
        });
    }

    private static void print() {
        Edges.test("Promise 29", "Returns the number of the sheet.", () -> {
            Quizspool x = withSheets(30);
            for (int i = 0; i < 30; i++) {
                int sheet = i;
                Checks.due("the sheet " + i, sheet, () -> x.print());
            }
        });
        Edges.test("Promise 29", "Throws `IllegalStateException` if the spooler is jammed", () -> {
            Edges.refused("print in a jam", Checks.STATE, () -> jammed(Machines::busy), x -> x.print());
            Edges.refused("print in a jam again", Checks.STATE, () -> jammed(() -> jammed(Machines::busy)),
                    x -> x.print());
        });
        Edges.test("Promise 29", "Throws `NoSuchElementException` if none waits", () -> {
            Edges.refused("print without sheets", Checks.NO_SUCH, Quizspool::new, x -> x.print());
            Edges.refused("print when all are printed", Checks.NO_SUCH, () -> printed(() -> withSheets(1)),
                    x -> x.print());
            Edges.refused("print when all are cancelled", Checks.NO_SUCH,
                    () -> cancelled(() -> withSheets(1), 0), x -> x.print());
            Edges.refused("print when the 30 are printed or cancelled", Checks.NO_SUCH,
                    () -> printed(Machines::full), x -> x.print());
        });
    }

    private static Quizspool jammed(Supplier<Quizspool> made) {
        Quizspool x = made.get();
        x.setJam(true);
        return x;
    }

    private static void cancel() {
        Edges.test("Promise 30", "- `sheet`: the number of the sheet", () ->
            Edges.ends("cancel", () -> withSheets(30), 1, 29, 1, Quizspool::cancel));
        Edges.test("Promise 30", "Returns how many questions it held.", () -> {
            Checks.due("one", 1, () -> withSheets(1).cancel(0));
            Checks.due("as many as there may be", 27, () -> greatest().cancel(0));
        });
        Edges.test("Promise 30", "Throws `IndexOutOfBoundsException` if there is no such sheet", () ->
            Edges.noSuchSheet("cancel", Quizspool::cancel));
        Edges.test("Promise 30", "Throws `UnsupportedOperationException` if it does not wait", () -> {
            Edges.refused("cancel a printed one", Checks.UNSUPPORTED, Machines::busy, x -> x.cancel(0));
            Edges.refused("cancel a cancelled one", Checks.UNSUPPORTED, Machines::busy, x -> x.cancel(2));
            Checks.due("one that waits in a jam", 1, () -> jammed(Machines::busy).cancel(1));
        });
    }

    private static void answer() {
        Edges.test("Promise 31", "- `sheet`: the number of the sheet", () -> {
            Checks.due("the first sheet", 0, () -> allPrinted().answer(0, 0, true));
            Checks.due("the last sheet", 0, () -> allPrinted().answer(29, 0, true));
        });
        Edges.test("Promise 31", "- `index`: the index of the question, from 0", () -> {
            Quizspool x = printed(EdgesOfSheets::greatest);
            Checks.due("the first question, from the level 0", 11, () -> x.answer(0, 0, false));
            Checks.due("the last question, from the level 90", 80, () -> x.answer(0, 26, true));
            for (int i = 1; i < 26; i++) {
                x.answer(0, i, true);
            }
            Checks.due("all are answered", 27, () -> x.answers());
        });
        Edges.test("Promise 31", "- `isRight`: whether the answer is right", () -> {
            Checks.due("right", 0, () -> allPrinted().answer(3, 0, true));
            Checks.due("wrong", 1 + 1 + 9, () -> allPrinted().answer(3, 0, false));
        });
    }

    private static Quizspool allPrinted() {
        Quizspool x = withSheets(30);
        for (int i = 0; i < 30; i++) {
            x.print();
        }
        return x;
    }

    private static void refusedAnswers() {
        Edges.test("Promise 31", "Throws `IndexOutOfBoundsException` if there is no such sheet", () ->
            Edges.noSuchSheet("answer", (x, number) -> x.answer(number, 0, true)));
        Edges.test("Promise 31", "Throws `UnsupportedOperationException` if it is not printed", () -> {
            Edges.refused("of one that waits", Checks.UNSUPPORTED, Machines::busy, x -> x.answer(1, 0, true));
            Edges.refused("of a cancelled one", Checks.UNSUPPORTED, Machines::busy,
                    x -> x.answer(2, 0, false));
        });
        Edges.test("Promise 31",
            "Throws `NoSuchElementException` if there is no such question, or it is answered", () -> {
                Edges.noSuch("answer one of two", Checks.NO_SUCH, Machines::busy, 2,
                        (x, i) -> x.answer(0, i, true));
                Edges.noSuch("answer one of 27", Checks.NO_SUCH, () -> printed(EdgesOfSheets::greatest), 27,
                        (x, i) -> x.answer(0, i, false));
                Edges.refused("right behind wrong", Checks.NO_SUCH, Machines::busy, x -> x.answer(0, 0, true));
                Edges.refused("wrong behind wrong", Checks.NO_SUCH, Machines::busy,
                        x -> x.answer(0, 0, false));
                Checks.due("the one that is not answered", 81, () -> Machines.busy().answer(0, 1, true));
            });
    }

    private static void textOf() {
        Edges.test("Promise 32", "- `sheet`: the number of the sheet", () ->
            Edges.ends("textOf", Machines::full, '0', 29, '2', (x, number) -> x.textOf(number, 0)));
        Edges.test("Promise 32", "- `index`: the index in the text, from 0", () -> {
            Edges.ends("textOf 0:0", Machines::full, '0', 2, '0', (x, i) -> x.textOf(0, i));
            Edges.ends("textOf 28:0,4", Machines::full, '2', 5, '4', (x, i) -> x.textOf(28, i));
            Edges.ends("textOf 29:19", Machines::full, '2', 4, '9', (x, i) -> x.textOf(29, i));
        });
        Edges.test("Promise 32",
            "Tells a sheet as a text: its number, a colon, and its questions with commas between.", () -> {
                Checks.due("one question", "0:0", () -> Machines.textOf(withSheets(1), 0));
                Checks.due("two questions", "0:0,5", () -> Machines.textOf(Machines.busy(), 0));
                Checks.due("two digits", "29:19", () -> Machines.textOf(Machines.full(), 29));
                Quizspool x = greatest();
                Checks.due("27 questions", "0:" + Machines.questionsOf(x, 0).replace(' ', ','),
                        () -> Machines.textOf(x, 0));
            });
        Edges.test("Promise 32", "Throws `IndexOutOfBoundsException` if there is no such sheet", () ->
            Edges.noSuchSheet("textOf", (x, number) -> x.textOf(number, 0)));
        Edges.test("Promise 32", "Throws `NoSuchElementException` if the text has no such letter", () -> {
            Edges.noSuch("textOf 1:1", Checks.NO_SUCH, Machines::busy, 3, (x, i) -> x.textOf(1, i));
            Edges.noSuch("textOf 28:0,4", Checks.NO_SUCH, Machines::full, 6, (x, i) -> x.textOf(28, i));
        });
    }
}
