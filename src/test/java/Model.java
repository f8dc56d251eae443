import java.util.ArrayList;
import java.util.Collections;
import java.util.List;
import java.util.NoSuchElementException;
import java.util.TreeMap;

/**
 * The document told a second time, as plainly as it can be: what is free, what is a twin and what a
 * level is are found anew from all that has happened, whenever they are asked for.
 */
final class Model {
    private static final class PlanRecord {
        int week;
        char kind;
        int many;
        boolean dropped;
        List<Integer> held = new ArrayList<>();
    }

    private static final class SheetRecord {
        char state = 's';
        int printedWeek;
        List<Integer> questions = new ArrayList<>();
        List<Integer> answered = new ArrayList<>();
    }

    private final List<Integer> row = new ArrayList<>();
    private final List<List<Integer>> words = new ArrayList<>();
    private final List<Integer> firstLevels = new ArrayList<>();
    private final List<int[]> twinPairs = new ArrayList<>();
    private final List<int[]> answerLog = new ArrayList<>();
    private final List<PlanRecord> plans = new ArrayList<>();
    private final List<SheetRecord> sheets = new ArrayList<>();
    private List<int[]> hits = new ArrayList<>();
    private int week;
    private boolean jam;

    private static void index(boolean fine) {
        if (!fine) {
            throw new IndexOutOfBoundsException();
        }
    }

    private static void argument(boolean fine) {
        if (!fine) {
            throw new IllegalArgumentException();
        }
    }

    private static void state(boolean fine) {
        if (!fine) {
            throw new IllegalStateException();
        }
    }

    private static void supported(boolean fine) {
        if (!fine) {
            throw new UnsupportedOperationException();
        }
    }

    private static void such(boolean fine) {
        if (!fine) {
            throw new NoSuchElementException();
        }
    }

    private static boolean in(int number, int most) {
        return 0 <= number && number <= most;
    }

    private int levelOf(int question) {
        int level = firstLevels.get(question);
        for (int[] answer : answerLog) {
            if (answer[0] == question && answer[1] == 1) {
                int less = 1 + level / 10;
                level = less > level ? 0 : level - less;
            } else if (answer[0] == question) {
                int more = 1 + (100 - level) / 10;
                level = level + more > 100 ? 100 : level + more;
            }
        }
        return level;
    }

    private char kindOf(int question) {
        return levelOf(question) < 34 ? 'e' : levelOf(question) >= 67 ? 'h' : 'm';
    }

    /** The twins of a question, found by walking from pair to pair. */
    private List<Integer> twinsOf(int question) {
        List<Integer> found = new ArrayList<>(List.of(question));
        for (int i = 0; i < found.size(); i++) {
            for (int[] pair : twinPairs) {
                for (int side = 0; side < 2; side++) {
                    if (pair[side] == found.get(i) && !found.contains(pair[1 - side])) {
                        found.add(pair[1 - side]);
                    }
                }
            }
        }
        found.remove(0);
        return found;
    }

    private boolean open(PlanRecord plan) {
        return !plan.dropped && plan.week >= week;
    }

    private boolean free(int question) {
        for (PlanRecord plan : plans) {
            if (open(plan) && plan.held.contains(question)) {
                return false;
            }
        }
        for (SheetRecord sheet : sheets) {
            boolean isOn = sheet.questions.contains(question);
            if (isOn && sheet.state == 's') {
                return false;
            }
            if (isOn && sheet.state == 'p' && week - 2 <= sheet.printedWeek) {
                return false;
            }
        }
        return true;
    }

    private void behindEachCall() {
        for (PlanRecord plan : plans) {
            List<Integer> kept = new ArrayList<>();
            for (int i = 0; open(plan) && i < plan.held.size(); i++) {
                int question = plan.held.get(i);
                if (kindOf(question) == plan.kind
                        && Collections.disjoint(plan.held.subList(0, i), twinsOf(question))) {
                    kept.add(question);
                }
            }
            plan.held = kept;
        }
        for (PlanRecord plan : plans) {
            for (int q = 0; open(plan) && q < words.size(); q++) {
                if (plan.held.size() < plan.many && kindOf(q) == plan.kind && free(q)
                        && Collections.disjoint(plan.held, twinsOf(q))) {
                    plan.held.add(q);
                }
            }
        }
    }

    int type(int word) {
        argument(in(word, 29));
        state(row.size() < 6);
        row.add(word);
        return row.size();
    }

    int erase() {
        int count = row.size();
        row.clear();
        return count;
    }

    int add(int level) {
        argument(in(level, 100));
        supported(!row.isEmpty());
        state(words.size() < 40);
        words.add(new ArrayList<>(row));
        firstLevels.add(level);
        row.clear();
        behindEachCall();
        return words.size() - 1;
    }

    private void question(int number) {
        index(in(number, words.size() - 1));
    }

    int twin(int first, int second) {
        question(first);
        question(second);
        argument(first != second);
        twinPairs.add(new int[] {first, second});
        behindEachCall();
        return twinsOf(first).size();
    }

    boolean areTwins(int first, int second) {
        question(first);
        question(second);
        return twinsOf(first).contains(second);
    }

    int wordAt(int question, int at) {
        question(question);
        such(in(at, words.get(question).size() - 1));
        return words.get(question).get(at);
    }

    int level(int question) {
        question(question);
        return levelOf(question);
    }

    char kind(int question) {
        question(question);
        return kindOf(question);
    }

    int search() {
        supported(!row.isEmpty());
        TreeMap<Integer, List<int[]>> byRank = new TreeMap<>(Collections.reverseOrder());
        for (int q = 0; q < words.size(); q++) {
            int rank = 0;
            for (int word = 0; word < 30; word++) {
                int often = Collections.frequency(words.get(q), word);
                if (row.contains(word) && often > 0) {
                    rank += 10 + often;
                }
            }
            if (rank > 0) {
                byRank.computeIfAbsent(rank, r -> new ArrayList<>()).add(new int[] {q, rank});
            }
        }
        hits = new ArrayList<>();
        byRank.values().forEach(hits::addAll);
        return hits.size();
    }

    int hit(int at, int part) {
        such(in(at, hits.size() - 1));
        return hits.get(at)[part];
    }

    int week() {
        return week;
    }

    int nextWeek() {
        state(week < 999);
        week++;
        behindEachCall();
        return week;
    }

    int plan(int forWeek, char kind, int many) {
        argument(forWeek >= week && forWeek <= 999);
        argument("emh".indexOf(kind) >= 0);
        argument(many >= 1 && many <= 9);
        state(plans.size() < 12);
        PlanRecord plan = new PlanRecord();
        plan.week = forWeek;
        plan.kind = kind;
        plan.many = many;
        plans.add(plan);
        behindEachCall();
        return plans.size() - 1;
    }

    private PlanRecord planOf(int number) {
        index(in(number, plans.size() - 1));
        return plans.get(number);
    }

    int drop(int number) {
        PlanRecord plan = planOf(number);
        supported(!plan.dropped);
        int count = plan.held.size();
        plan.dropped = true;
        behindEachCall();
        return count;
    }

    int held(int plan) {
        return planOf(plan).held.size();
    }

    int heldAt(int plan, int at) {
        such(in(at, planOf(plan).held.size() - 1));
        return planOf(plan).held.get(at);
    }

    int lacks(int plan) {
        PlanRecord asked = planOf(plan);
        return open(asked) ? asked.many - asked.held.size() : 0;
    }

    boolean isFree(int question) {
        question(question);
        return free(question);
    }

    int quiz(int seed, int easy, int middle, int hard) {
        argument(in(seed, 1008) && in(easy, 9) && in(middle, 9) && in(hard, 9));
        String wanted = "e".repeat(easy) + "m".repeat(middle) + "h".repeat(hard);
        argument(!wanted.isEmpty());
        SheetRecord sheet = new SheetRecord();
        int draw = seed;
        for (char kind : wanted.toCharArray()) {
            List<Integer> candidates = new ArrayList<>();
            for (int q = 0; q < words.size(); q++) {
                if (free(q) && kindOf(q) == kind && !sheet.questions.contains(q)
                        && Collections.disjoint(sheet.questions, twinsOf(q))) {
                    candidates.add(q);
                }
            }
            such(!candidates.isEmpty());
            sheet.questions.add(candidates.get(draw % candidates.size()));
            draw = (draw * 5 + 3) % 1009;
        }
        state(sheets.size() < 30);
        sheets.add(sheet);
        behindEachCall();
        return sheets.size() - 1;
    }

    int quizOf(int number) {
        PlanRecord plan = planOf(number);
        supported(plan.week == week && !plan.dropped && !plan.held.isEmpty());
        state(sheets.size() < 30);
        SheetRecord sheet = new SheetRecord();
        sheet.questions.addAll(plan.held);
        plan.held.clear();
        plan.dropped = true;
        sheets.add(sheet);
        behindEachCall();
        return sheets.size() - 1;
    }

    private SheetRecord sheetOf(int number) {
        index(in(number, sheets.size() - 1));
        return sheets.get(number);
    }

    int size(int sheet) {
        return sheetOf(sheet).questions.size();
    }

    int questionAt(int sheet, int at) {
        such(in(at, sheetOf(sheet).questions.size() - 1));
        return sheetOf(sheet).questions.get(at);
    }

    char stateOf(int sheet) {
        return sheetOf(sheet).state;
    }

    int waiting() {
        return (int) sheets.stream().filter(s -> s.state == 's').count();
    }

    boolean setJam(boolean is) {
        boolean was = jam;
        jam = is;
        return was;
    }

    int print() {
        state(!jam);
        such(waiting() > 0);
        int number = 0;
        while (sheets.get(number).state != 's') {
            number++;
        }
        sheets.get(number).state = 'p';
        sheets.get(number).printedWeek = week;
        behindEachCall();
        return number;
    }

    int cancel(int number) {
        SheetRecord sheet = sheetOf(number);
        supported(sheet.state == 's');
        sheet.state = 'c';
        behindEachCall();
        return sheet.questions.size();
    }

    int answer(int number, int at, boolean isRight) {
        SheetRecord sheet = sheetOf(number);
        supported(sheet.state == 'p');
        such(in(at, sheet.questions.size() - 1) && !sheet.answered.contains(at));
        sheet.answered.add(at);
        int question = sheet.questions.get(at);
        answerLog.add(new int[] {question, isRight ? 1 : 0});
        behindEachCall();
        return levelOf(question);
    }

    char textOf(int number, int at) {
        String questions = sheetOf(number).questions.toString().replaceAll("[\\[\\] ]", "");
        String text = number + ":" + questions;
        such(in(at, text.length() - 1));
        return text.charAt(at);
    }

    int answers() {
        return answerLog.size();
    }

    long allLevels() {
        long sum = 0;
        for (int q = 0; q < words.size(); q++) {
            sum += levelOf(q);
        }
        return sum;
    }

    float rightShare() {
        if (answerLog.isEmpty()) {
            throw new ArithmeticException();
        }
        float right = answerLog.stream().filter(a -> a[1] == 1).count();
        return right / answerLog.size();
    }

    double meanLevel() {
        if (words.isEmpty()) {
            throw new ArithmeticException();
        }
        return (double) allLevels() / words.size();
    }
}
