/** The edges that the promises 33 to 37 name: sums of none, of one and of the most. */
final class EdgesOfSums {
    private EdgesOfSums() {
    }

    static void run() {
        answers();
        levels();
        isSound();
    }

    /** So many questions of the level 50 on one printed sheet, of which the first ones are answered. */
    private static Quizspool answered(int right, int wrong) {
        Quizspool x = Machines.alike(9, 50);
        x.quiz(0, 0, 9, 0);
        x.print();
        for (int i = 0; i < right + wrong; i++) {
            x.answer(0, i, i < right);
        }
        return x;
    }

    private static void answers() {
        Edges.test("Promise 33", "Returns the number of answers.", () -> {
            Checks.due("none", 0, () -> answered(0, 0).answers());
            Checks.due("one", 1, () -> answered(0, 1).answers());
            Checks.due("all of the sheet", 9, () -> answered(4, 5).answers());
        });
        Edges.test("Promise 35",
            "Returns their number divided by that of answers, both converted to float.", () -> {
                Checks.due("none right", 0.0f, () -> answered(0, 9).rightShare());
                Checks.due("all right", 1.0f, () -> answered(9, 0).rightShare());
                Checks.due("one of three", 1.0f / 3.0f, () -> answered(1, 2).rightShare());
                Checks.due("seven of nine", 7.0f / 9.0f, () -> answered(7, 2).rightShare());
            });
        Edges.test("Promise 35", "Throws `ArithmeticException` if there are none", () -> {
            Edges.refused("the share of a new object", Checks.ARITHMETIC, Quizspool::new, x -> x.rightShare());
            Edges.refused("the share of a sheet without answers", Checks.ARITHMETIC, () -> answered(0, 0),
                    x -> x.rightShare());
        });
    }

    private static void levels() {
        Edges.test("Promise 34", "Returns the sum of all levels.", () -> {
            Checks.due("of none", 0L, () -> new Quizspool().allLevels());
            Checks.due("of the least", 0L, () -> Machines.alike(40, 0).allLevels());
            Checks.due("of the greatest", 4000L, () -> Machines.alike(40, 100).allLevels());
        });
        Edges.test("Promise 36", "Returns the sum divided by their number, both converted to double.", () -> {
            Checks.due("of the least", 0.0, () -> Machines.alike(40, 0).meanLevel());
            Checks.due("of the greatest", 100.0, () -> Machines.alike(40, 100).meanLevel());
            Checks.due("of three", 100.0 / 3.0, () -> Machines.withLevels(0, 100, 0).meanLevel());
            Checks.due("of one", 77.0, () -> Machines.withLevels(77).meanLevel());
        });
        Edges.test("Promise 36", "Throws `ArithmeticException` if there are no questions", () -> {
            Edges.refused("the mean of a new object", Checks.ARITHMETIC, Quizspool::new, x -> x.meanLevel());
            Edges.refused("the mean of words in a row", Checks.ARITHMETIC, () -> {
                Quizspool x = new Quizspool();
                x.type(0);
                return x;
            }, x -> x.meanLevel());
        });
    }

    /** SumsTest has the machines for which it does not hold. */
    private static void isSound() {
        Edges.test("Promise 37", "Returns whether this holds.", () -> {
            Checks.due("a new object", true, () -> new Quizspool().isSound());
            Checks.due("a busy one", true, () -> Machines.busy().isSound());
            Checks.due("a full one", true, () -> Machines.full().isSound());
        });
    }
}
