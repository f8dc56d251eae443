/** Quiz machines in the states that several tests begin with. */
final class Machines {
    private Machines() {
    }

    /** A machine with a question of one word, 0, for each of the levels. */
    static Quizspool withLevels(int... levels) {
        Quizspool x = new Quizspool();
        for (int level : levels) {
            addQuestion(x, level, 0);
        }
        return x;
    }

    static int addQuestion(Quizspool x, int level, int... words) {
        for (int word : words) {
            x.type(word);
        }
        return x.add(level);
    }

    /**
     * Has something of everything, in the week 1: 8 questions, of which 0 and 6 are twins, and 2 and 7;
     * the plan 0 is past, 1 is of this week and holds 2 and 3, 2 is of the week 3 and holds 4, 3 is
     * dropped; the sheet 0 is printed with 0 (answered) and 5, 1 waits with 1, 2 is cancelled, 3 waits
     * with 7; the row has the words 0 and 3, and the last search was for them.
     */
    static Quizspool busy() {
        Quizspool x = new Quizspool();
        int[] levels = {10, 11, 50, 51, 90, 91, 33, 66};
        for (int i = 0; i < levels.length; i++) {
            addQuestion(x, levels[i], i % 3, 3);
        }
        x.twin(0, 6);
        x.twin(2, 7);
        x.plan(0, 'e', 1);
        x.nextWeek();
        x.plan(1, 'm', 2);
        x.plan(3, 'h', 1);
        x.plan(2, 'e', 1);
        x.drop(3);
        x.quiz(0, 1, 0, 1);
        x.print();
        x.answer(0, 0, false);
        x.quiz(0, 1, 0, 0);
        x.quiz(0, 1, 0, 0);
        x.cancel(2);
        x.quiz(0, 0, 1, 0);
        x.type(0);
        x.type(3);
        x.search();
        return x;
    }

    /**
     * Has as much as there may be: 40 questions of the levels 0, 2 .. 78, each with one word; 12 plans for
     * the week 5, of which 0 to 5 hold one hard question each, 6 to 10 none, and 11 holds 17 and 18; 30
     * sheets, of which 0 to 27 are cancelled with 0, 28 is printed with 0 and 4, and 29 waits with 19.
     */
    static Quizspool full() {
        Quizspool x = new Quizspool();
        for (int i = 0; i < 40; i++) {
            addQuestion(x, 2 * i, i % 30);
        }
        for (int i = 0; i < 11; i++) {
            x.plan(5, 'h', 1);
        }
        x.plan(5, 'm', 2);
        for (int i = 0; i < 28; i++) {
            x.quiz(0, 1, 0, 0);
            x.cancel(i);
        }
        x.quiz(0, 2, 0, 0);
        x.print();
        x.quiz(0, 0, 1, 0);
        return x;
    }

    /** So many questions of one level. */
    static Quizspool alike(int count, int level) {
        int[] levels = new int[count];
        java.util.Arrays.fill(levels, level);
        return withLevels(levels);
    }

    /** The questions that a plan holds, with blanks between. */
    static String heldBy(Quizspool x, int plan) {
        StringBuilder text = new StringBuilder();
        for (int i = 0; i < x.held(plan); i++) {
            text.append(i == 0 ? "" : " ").append(x.heldAt(plan, i));
        }
        return text.toString();
    }

    /** The questions of a sheet, with blanks between. */
    static String questionsOf(Quizspool x, int sheet) {
        StringBuilder text = new StringBuilder();
        for (int i = 0; i < x.size(sheet); i++) {
            text.append(i == 0 ? "" : " ").append(x.questionAt(sheet, i));
        }
        return text.toString();
    }

    static String freeOnes(Quizspool x, int questions) {
        StringBuilder text = new StringBuilder();
        for (int i = 0; i < questions; i++) {
            text.append(x.isFree(i) ? "1" : "0");
        }
        return text.toString();
    }

    static String textOf(Quizspool x, int sheet) {
        StringBuilder text = new StringBuilder();
        try {
            for (int i = 0; i < 1000; i++) {
                text.append(x.textOf(sheet, i));
            }
        } catch (java.util.NoSuchElementException e) {
            return text.toString();
        }
        return "no end";
    }
}
