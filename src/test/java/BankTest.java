/** Promises 1 to 10: a new object, the row, questions, twins, levels and kinds. */
public final class BankTest {
    public static void main(String[] args) {
        promise1NewObject();
        promise2Type();
        promise3Erase();
        promise4Add();
        promise4AddedQuestionsAreTakenByPlans();
        promise5Twin();
        promise6AreTwins();
        promise7WordAt();
        promise8Level();
        promise9LevelAnew();
        promise10Kind();
        Checks.finish("BankTest");
    }

    private static void promise1NewObject() {
        Quizspool x = new Quizspool();
        Checks.due("week of a new object", 0, () -> x.week());
        Checks.due("row of a new object", 0, () -> x.erase());
        Checks.due("waiting of a new object", 0, () -> x.waiting());
        Checks.due("answers of a new object", 0, () -> x.answers());
        Checks.due("allLevels of a new object", 0L, () -> x.allLevels());
        Checks.dueThrow("question of a new object", Checks.INDEX, () -> x.level(0));
        Checks.dueThrow("plan of a new object", Checks.INDEX, () -> x.held(0));
        Checks.dueThrow("sheet of a new object", Checks.INDEX, () -> x.size(0));
        Checks.due("jam of a new object", false, () -> x.setJam(false));
        Quizspool other = Machines.withLevels(1);
        Checks.due("another object has its own questions", 1L, () -> other.allLevels());
        Checks.due("a new object stays as it is", 0L, () -> x.allLevels());
    }

    private static void promise2Type() {
        Quizspool x = new Quizspool();
        for (int word : new int[] {-1, 30, Integer.MIN_VALUE, Integer.MAX_VALUE}) {
            Checks.dueThrow("type(" + word + ")", Checks.ARGUMENT, () -> x.type(word));
        }
        int[] words = {0, 29, 29, 5, 0, 1};
        for (int i = 0; i < words.length; i++) {
            int word = words[i];
            Checks.due("type(" + word + ")", i + 1, () -> x.type(word));
        }
        Checks.dueThrow("a seventh word", Checks.STATE, () -> x.type(3));
        Checks.dueThrow("a seventh word that there is not", Checks.ARGUMENT, () -> x.type(30));
        Checks.due("the row behind the refusals", 6, () -> x.erase());
    }

    private static void promise3Erase() {
        Quizspool x = new Quizspool();
        Checks.due("erase of an empty row", 0, () -> x.erase());
        x.type(4);
        x.type(4);
        Checks.due("erase of two words", 2, () -> x.erase());
        Checks.due("erase again", 0, () -> x.erase());
        Checks.due("type behind erase", 1, () -> x.type(9));
        x.add(3);
        Checks.due("the word behind erase", 9, () -> x.wordAt(0, 0));
        Checks.dueThrow("erased words", Checks.NO_SUCH, () -> x.wordAt(0, 1));
    }

    private static void promise4Add() {
        Quizspool x = new Quizspool();
        Checks.dueThrow("add(101) with an empty row", Checks.ARGUMENT, () -> x.add(101));
        Checks.dueThrow("add(-1) with an empty row", Checks.ARGUMENT, () -> x.add(-1));
        Checks.dueThrow("add(0) with an empty row", Checks.UNSUPPORTED, () -> x.add(0));
        x.type(2);
        Checks.dueThrow("add(101)", Checks.ARGUMENT, () -> x.add(101));
        Checks.dueThrow("add(MAX)", Checks.ARGUMENT, () -> x.add(Integer.MAX_VALUE));
        Checks.due("add(0)", 0, () -> x.add(0));
        Checks.due("the row behind add", 0, () -> x.erase());
        x.type(3);
        Checks.due("add(100)", 1, () -> x.add(100));
        for (int i = 2; i < 40; i++) {
            int number = i;
            x.type(i % 30);
            Checks.due("add as number " + i, number, () -> x.add(50));
        }
        Checks.dueThrow("a question beyond 40 with an empty row", Checks.UNSUPPORTED, () -> x.add(50));
        x.type(3);
        Checks.dueThrow("a question beyond 40", Checks.STATE, () -> x.add(50));
        Checks.dueThrow("a question beyond 40 of no level", Checks.ARGUMENT, () -> x.add(-1));
        Checks.due("the row behind a refused add", 1, () -> x.erase());
        Checks.dueThrow("number 40", Checks.INDEX, () -> x.level(40));
        Checks.due("all levels behind the refusals", 100L + 38 * 50, () -> x.allLevels());
    }

    private static void promise4AddedQuestionsAreTakenByPlans() {
        Quizspool x = Machines.withLevels(90);
        x.plan(3, 'e', 1);
        Machines.addQuestion(x, 33, 1);
        Machines.addQuestion(x, 10, 1);
        Checks.due("the plan takes the first easy one", "1", () -> Machines.heldBy(x, 0));
        Checks.due("the others are free", "101", () -> Machines.freeOnes(x, 3));
    }

    private static void promise5Twin() {
        Quizspool x = Machines.withLevels(1, 2, 3, 4, 5);
        Checks.dueThrow("twin(0, 5)", Checks.INDEX, () -> x.twin(0, 5));
        Checks.dueThrow("twin(5, 0)", Checks.INDEX, () -> x.twin(5, 0));
        Checks.dueThrow("twin(-1, 0)", Checks.INDEX, () -> x.twin(-1, 0));
        Checks.dueThrow("twin(-1, -1)", Checks.INDEX, () -> x.twin(-1, -1));
        Checks.dueThrow("twin(7, 7)", Checks.INDEX, () -> x.twin(7, 7));
        Checks.dueThrow("twin(2, 2)", Checks.ARGUMENT, () -> x.twin(2, 2));
        Checks.due("twin(0, 1)", 1, () -> x.twin(0, 1));
        Checks.due("twin(1, 0) again", 1, () -> x.twin(1, 0));
        Checks.due("twin(2, 3)", 1, () -> x.twin(2, 3));
        Checks.due("twin(3, 1) of two pairs", 3, () -> x.twin(3, 1));
        Checks.due("twin(0, 2), twins by others", 3, () -> x.twin(0, 2));
        Checks.due("twin(4, 0)", 4, () -> x.twin(4, 0));
    }

    private static void promise6AreTwins() {
        Quizspool x = Machines.withLevels(1, 50, 90, 4);
        Checks.dueThrow("areTwins(0, 4)", Checks.INDEX, () -> x.areTwins(0, 4));
        Checks.dueThrow("areTwins(4, 0)", Checks.INDEX, () -> x.areTwins(4, 0));
        Checks.dueThrow("areTwins(-1, -1)", Checks.INDEX, () -> x.areTwins(-1, -1));
        Checks.due("areTwins(0, 1) first", false, () -> x.areTwins(0, 1));
        x.twin(0, 1);
        x.twin(2, 1);
        Checks.due("areTwins(0, 1)", true, () -> x.areTwins(0, 1));
        Checks.due("areTwins(1, 0)", true, () -> x.areTwins(1, 0));
        Checks.due("areTwins(0, 2), twins of one", true, () -> x.areTwins(0, 2));
        Checks.due("areTwins(2, 0), twins of one", true, () -> x.areTwins(2, 0));
        Checks.due("areTwins(0, 0)", false, () -> x.areTwins(0, 0));
        Checks.due("areTwins(0, 3)", false, () -> x.areTwins(0, 3));
    }

    private static void promise7WordAt() {
        Quizspool x = new Quizspool();
        Machines.addQuestion(x, 5, 7);
        Machines.addQuestion(x, 5, 29, 0, 3, 3, 1, 29);
        int[] words = {29, 0, 3, 3, 1, 29};
        for (int i = 0; i < words.length; i++) {
            int index = i;
            Checks.due("wordAt(1, " + i + ")", words[i], () -> x.wordAt(1, index));
        }
        Checks.due("wordAt(0, 0)", 7, () -> x.wordAt(0, 0));
        Checks.dueThrow("wordAt(0, 1)", Checks.NO_SUCH, () -> x.wordAt(0, 1));
        Checks.dueThrow("wordAt(0, -1)", Checks.NO_SUCH, () -> x.wordAt(0, -1));
        Checks.dueThrow("wordAt(1, 6)", Checks.NO_SUCH, () -> x.wordAt(1, 6));
        Checks.dueThrow("wordAt(2, 0)", Checks.INDEX, () -> x.wordAt(2, 0));
        Checks.dueThrow("wordAt(-1, -1)", Checks.INDEX, () -> x.wordAt(-1, -1));
        x.type(11);
        Checks.due("wordAt when the row changes", 29, () -> x.wordAt(1, 0));
    }

    private static void promise8Level() {
        Quizspool x = Machines.withLevels(0, 100, 34);
        Checks.due("level(0)", 0, () -> x.level(0));
        Checks.due("level(1)", 100, () -> x.level(1));
        Checks.due("level(2)", 34, () -> x.level(2));
        Checks.dueThrow("level(3)", Checks.INDEX, () -> x.level(3));
        Checks.dueThrow("level(-1)", Checks.INDEX, () -> x.level(-1));
        x.quiz(0, 0, 1, 0);
        x.print();
        x.answer(0, 0, false);
        Checks.due("level(2) behind a wrong answer", 34 + 1 + 6, () -> x.level(2));
    }

    private static void promise9LevelAnew() {
        Quizspool x = Machines.withLevels(50, 20);
        Checks.dueThrow("levelAnew(2)", Checks.INDEX, () -> x.levelAnew(2));
        Checks.dueThrow("levelAnew(-1)", Checks.INDEX, () -> x.levelAnew(-1));
        Checks.due("levelAnew(0) first", 50, () -> x.levelAnew(0));
        for (int i = 0; i < 3; i++) {
            x.quiz(0, 0, 1, 0);
            x.print();
            x.nextWeek();
            x.nextWeek();
            x.nextWeek();
        }
        x.answer(2, 0, true);
        Checks.due("levelAnew(0), right", 44, () -> x.levelAnew(0));
        x.answer(0, 0, false);
        Checks.due("levelAnew(0), right and wrong", 50, () -> x.levelAnew(0));
        x.answer(1, 0, false);
        Checks.due("levelAnew(0), and wrong", 56, () -> x.levelAnew(0));
        Checks.due("level(0)", 56, () -> x.level(0));
        Checks.due("levelAnew(1), never answered", 20, () -> x.levelAnew(1));
    }

    private static void promise10Kind() {
        Quizspool x = Machines.withLevels(0, 33, 34, 66, 67, 100);
        String kinds = "eemmhh";
        for (int i = 0; i < 6; i++) {
            int question = i;
            Checks.due("kind(" + i + ")", kinds.charAt(i), () -> x.kind(question));
        }
        Checks.dueThrow("kind(6)", Checks.INDEX, () -> x.kind(6));
        Checks.dueThrow("kind(-1)", Checks.INDEX, () -> x.kind(-1));
        x.quiz(0, 0, 0, 1);
        x.print();
        x.answer(0, 0, true);
        Checks.due("kind behind a right answer, 60", 'm', () -> x.kind(4));
    }
}
