/**
 * Everything that a machine answers, asked in one order, so that two machines can be compared. The last
 * questions change the machine (only so do the row, the jam and the answered questions show), and there
 * may be more of them than 512.
 */
final class Story {
    private final Quizspool x;
    private final StringBuilder text = new StringBuilder();

    private Story(Quizspool x) {
        this.x = x;
    }

    static String of(Quizspool x) {
        Story story = new Story(x);
        story.tellNow();
        story.tellRow();
        story.tellSpooler();
        return story.text.toString();
    }

    private void note(String what, Checks.Call call) {
        text.append(what).append('=').append(Checks.told(call)).append(' ');
    }

    /** How many there are of what the call asks for by numbers from 0. */
    private int count(Edges.NumberedUse call) {
        int count = 0;
        while (count < 100 && isThere(call, count)) {
            count++;
        }
        return count;
    }

    private boolean isThere(Edges.NumberedUse call, int number) {
        return !Checks.told(() -> call.on(x, number)).startsWith("throws.");
    }

    private int questions() {
        return count((x, question) -> x.level(question));
    }

    private int plans() {
        return count((x, plan) -> x.held(plan));
    }

    private int sheets() {
        return count((x, sheet) -> x.size(sheet));
    }

    private void tellNow() {
        note("\nweek", () -> x.week());
        note("waiting", () -> x.waiting());
        note("answers", () -> x.answers());
        note("allLevels", () -> x.allLevels());
        note("rightShare", () -> x.rightShare());
        note("meanLevel", () -> x.meanLevel());
        note("isSound", () -> x.isSound());
        tellHits();
        tellQuestions(questions());
        for (int i = 0; i < plans(); i++) {
            int plan = i;
            note("\nplan", () -> plan + ": " + Machines.heldBy(x, plan) + " lacks " + x.lacks(plan));
        }
        for (int i = 0; i < sheets(); i++) {
            int sheet = i;
            note("\nsheet", () -> Machines.textOf(x, sheet) + x.stateOf(sheet));
            note("has", () -> Machines.questionsOf(x, sheet));
        }
    }

    private void tellHits() {
        for (int i = 0; i < 41; i++) {
            int index = i;
            note("hit", () -> x.hitAt(index) + " " + x.rankAt(index));
        }
    }

    private void tellQuestions(int count) {
        for (int i = 0; i < count; i++) {
            int question = i;
            note("\nquestion", () -> x.level(question) + " " + x.levelAnew(question) + x.kind(question)
                    + x.isFree(question));
            for (int j = 0; j < 7; j++) {
                int index = j;
                note("word", () -> x.wordAt(question, index));
            }
            for (int j = 0; j < count; j++) {
                int other = j;
                note("twin", () -> x.areTwins(question, other));
            }
        }
    }

    private void tellRow() {
        note("\nsearch", () -> x.search());
        tellHits();
        note("add", () -> x.add(50));
        note("erase", () -> x.erase());
        tellQuestions(questions());
    }

    private void tellSpooler() {
        note("\njam", () -> x.setJam(false));
        for (int week = 0; week < 4; week++) {
            note("print", () -> x.print());
            note("print", () -> x.print());
            note("nextWeek", () -> x.nextWeek());
            for (int i = 0; i < sheets(); i++) {
                tellAnswers(i);
            }
            tellNow();
        }
    }

    private void tellAnswers(int sheet) {
        for (int i = 0; i < x.size(sheet); i++) {
            int index = i;
            note("answer", () -> x.answer(sheet, index, false));
        }
    }
}
