/** Quiz machines in the states that several tests begin with. */
final class Machines {
    private Machines() {
    }

    /** A machine with a question of one word, 0, for each of the levels. */
    static Quizspool withLevels(int... levels) {
        Quizspool x = new Quizspool();
        for (int level : levels) {
            addQuestion(x, level, 0);
        }
        return x;
    }

    static int addQuestion(Quizspool x, int level, int... words) {
        for (int word : words) {
            x.type(word);
        }
        return x.add(level);
    }

    /** The questions that a plan holds, with blanks between. */
    static String heldBy(Quizspool x, int plan) {
        StringBuilder text = new StringBuilder();
        for (int i = 0; i < x.held(plan); i++) {
            text.append(i == 0 ? "" : " ").append(x.heldAt(plan, i));
        }
        return text.toString();
    }

    /** The questions of a sheet, with blanks between. */
    static String questionsOf(Quizspool x, int sheet) {
        StringBuilder text = new StringBuilder();
        for (int i = 0; i < x.size(sheet); i++) {
            text.append(i == 0 ? "" : " ").append(x.questionAt(sheet, i));
        }
        return text.toString();
    }

    static String freeOnes(Quizspool x, int questions) {
        StringBuilder text = new StringBuilder();
        for (int i = 0; i < questions; i++) {
            text.append(x.isFree(i) ? "1" : "0");
        }
        return text.toString();
    }

    static String textOf(Quizspool x, int sheet) {
        StringBuilder text = new StringBuilder();
        try {
            for (int i = 0; i < 1000; i++) {
                text.append(x.textOf(sheet, i));
            }
        } catch (java.util.NoSuchElementException e) {
            return text.toString();
        }
        return "no end";
    }
}
