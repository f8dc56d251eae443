import java.util.ArrayList;
import java.util.Arrays;
import java.util.NoSuchElementException;

/**
 * A quiz machine with a print spooler, a bank of questions with an index of words, and a teacher's
 * plans that reserve questions for weeks.
 */
public final class Quizspool {
    private static final int WORD_KINDS = 30;
    private static final int ROW_LENGTH = 6;
    private static final int MOST_LEVEL = 100;
    private static final int MIDDLE_FROM = 34;
    private static final int HARD_FROM = 67;
    private static final int MOST_QUESTIONS = 40;
    private static final int MOST_PLANS = 12;
    private static final int MOST_SHEETS = 30;
    private static final int MOST_OF_A_KIND = 9;
    private static final int LAST_WEEK = 999;
    private static final int REST_WEEKS = 2;
    private static final int DRAWS = 1009;
    private static final int NEVER = -1;

    private static final char EASY = 'e';
    private static final char MIDDLE = 'm';
    private static final char HARD = 'h';
    private static final char SPOOLED = 's';
    private static final char PRINTED = 'p';
    private static final char CANCELLED = 'c';

    private final int[] row = new int[ROW_LENGTH];
    private int rowCount;
    private final ArrayList<Question> questions = new ArrayList<>();
    private final ArrayList<Question> hits = new ArrayList<>();
    private final ArrayList<Plan> plans = new ArrayList<>();
    private final ArrayList<Sheet> sheets = new ArrayList<>();
    private int thisWeek;
    private boolean isJammed;
    private int answerCount;
    private int rightCount;

    // These are used again by every call that needs them, so that such calls make no objects.
    private final ArrayList<Question> drawn = new ArrayList<>();
    private final ArrayList<Question> candidates = new ArrayList<>();
    private final StringBuilder text = new StringBuilder();

    public Quizspool() {
    }

    // ---- The row and the bank of questions

    public int type(int word) throws IllegalArgumentException, IllegalStateException {
        if (isOutside(word, 0, WORD_KINDS - 1)) {
            throw new IllegalArgumentException("no such word");
        }
        if (rowCount >= ROW_LENGTH) {
            throw new IllegalStateException("the row is full");
        }
        row[rowCount] = word;
        rowCount++;
        return rowCount;
    }

    public int erase() {
        int erased = rowCount;
        rowCount = 0;
        return erased;
    }

    public int add(int level)
            throws IllegalArgumentException, UnsupportedOperationException, IllegalStateException {
        if (isOutside(level, 0, MOST_LEVEL)) {
            throw new IllegalArgumentException("the level is out of range");
        }
        if (rowCount == 0) {
            throw new UnsupportedOperationException("the row is empty");
        }
        if (questions.size() >= MOST_QUESTIONS) {
            throw new IllegalStateException("there are 40 questions");
        }
        int number = questions.size();
        questions.add(new Question(number, Arrays.copyOf(row, rowCount), level));
        rowCount = 0;
        settlePlans();
        return number;
    }

    public int twin(int first, int second)
            throws IndexOutOfBoundsException, IllegalArgumentException {
        Question one = questionOf(first);
        Question other = questionOf(second);
        if (one == other) {
            throw new IllegalArgumentException("a question is no twin of itself");
        }
        joinFamilies(one.family, other.family);
        settlePlans();
        return countTwins(one);
    }

    public boolean areTwins(int first, int second) throws IndexOutOfBoundsException {
        Question one = questionOf(first);
        Question other = questionOf(second);
        return one != other && one.family == other.family;
    }

    public int wordAt(int question, int index)
            throws IndexOutOfBoundsException, NoSuchElementException {
        int[] words = questionOf(question).words;
        if (index < 0 || index >= words.length) {
            throw new NoSuchElementException("no such word");
        }
        return words[index];
    }

    public int level(int question) throws IndexOutOfBoundsException {
        return questionOf(question).level;
    }

    public int levelAnew(int question) throws IndexOutOfBoundsException {
        return questionOf(question).levelByAnswers();
    }

    public char kind(int question) throws IndexOutOfBoundsException {
        return questionOf(question).kindNow();
    }

    // ---- The index of words

    public int search() throws UnsupportedOperationException {
        if (rowCount == 0) {
            throw new UnsupportedOperationException("the row is empty");
        }
        int sought = wordsOfRow();
        hits.clear();
        for (int i = 0; i < questions.size(); i++) {
            Question question = questions.get(i);
            question.rank = question.rankFor(sought);
            if (question.rank > 0) {
                hits.add(placeAmongHits(question.rank), question);
            }
        }
        return hits.size();
    }

    public int hitAt(int index) throws NoSuchElementException {
        return hitOf(index).number;
    }

    public int rankAt(int index) throws NoSuchElementException {
        return hitOf(index).rank;
    }

    // ---- Weeks and plans

    public int week() {
        return thisWeek;
    }

    public int nextWeek() throws IllegalStateException {
        if (thisWeek >= LAST_WEEK) {
            throw new IllegalStateException("it is the last week");
        }
        thisWeek++;
        settlePlans();
        return thisWeek;
    }

    public int plan(int week, char kind, int many)
            throws IllegalArgumentException, IllegalStateException {
        if (isOutside(week, thisWeek, LAST_WEEK)) {
            throw new IllegalArgumentException("no such week");
        }
        if (kind != EASY && kind != MIDDLE && kind != HARD) {
            throw new IllegalArgumentException("no such kind");
        }
        if (isOutside(many, 1, MOST_OF_A_KIND)) {
            throw new IllegalArgumentException("the number is out of range");
        }
        if (plans.size() >= MOST_PLANS) {
            throw new IllegalStateException("there are 12 plans");
        }
        plans.add(new Plan(week, kind, many));
        settlePlans();
        return plans.size() - 1;
    }

    public int drop(int plan) throws IndexOutOfBoundsException, UnsupportedOperationException {
        Plan dropped = planOf(plan);
        if (dropped.isDropped) {
            throw new UnsupportedOperationException("the plan is dropped");
        }
        int heldBefore = dropped.held.size();
        close(dropped);
        settlePlans();
        return heldBefore;
    }

    public int held(int plan) throws IndexOutOfBoundsException {
        return planOf(plan).held.size();
    }

    public int heldAt(int plan, int index)
            throws IndexOutOfBoundsException, NoSuchElementException {
        return elementOf(planOf(plan).held, index).number;
    }

    public int lacks(int plan) throws IndexOutOfBoundsException {
        Plan asked = planOf(plan);
        return isOpen(asked) ? asked.missing() : 0;
    }

    public boolean isFree(int question) throws IndexOutOfBoundsException {
        return isAvailable(questionOf(question));
    }

    // ---- Quizzes and their sheets

    public int quiz(int seed, int easy, int middle, int hard)
            throws IllegalArgumentException, NoSuchElementException, IllegalStateException {
        if (isOutside(seed, 0, DRAWS - 1) || isOutside(easy, 0, MOST_OF_A_KIND)
                || isOutside(middle, 0, MOST_OF_A_KIND) || isOutside(hard, 0, MOST_OF_A_KIND)) {
            throw new IllegalArgumentException("a number is out of range");
        }
        if (easy + middle + hard == 0) {
            throw new IllegalArgumentException("no question is wanted");
        }
        if (!drawQuestions(seed, easy, middle, hard)) {
            throw new NoSuchElementException("there are no candidates");
        }
        if (sheets.size() >= MOST_SHEETS) {
            throw new IllegalStateException("there are 30 sheets");
        }
        return spool(new Sheet(drawn));
    }

    public int quizOf(int plan)
            throws IndexOutOfBoundsException, UnsupportedOperationException, IllegalStateException {
        Plan source = planOf(plan);
        if (source.week != thisWeek || source.isDropped || source.held.isEmpty()) {
            throw new UnsupportedOperationException("the plan gives no quiz");
        }
        if (sheets.size() >= MOST_SHEETS) {
            throw new IllegalStateException("there are 30 sheets");
        }
        Sheet sheet = new Sheet(source.held);
        close(source);
        return spool(sheet);
    }

    public int size(int sheet) throws IndexOutOfBoundsException {
        return sheetOf(sheet).questions.size();
    }

    public int questionAt(int sheet, int index)
            throws IndexOutOfBoundsException, NoSuchElementException {
        return elementOf(sheetOf(sheet).questions, index).number;
    }

    public char stateOf(int sheet) throws IndexOutOfBoundsException {
        return sheetOf(sheet).state;
    }

    // ---- The spooler

    public int waiting() {
        int count = 0;
        for (int i = 0; i < sheets.size(); i++) {
            if (sheets.get(i).state == SPOOLED) {
                count++;
            }
        }
        return count;
    }

    public boolean setJam(boolean is) {
        boolean wasJammed = isJammed;
        isJammed = is;
        return wasJammed;
    }

    public int print() throws IllegalStateException, NoSuchElementException {
        if (isJammed) {
            throw new IllegalStateException("the spooler is jammed");
        }
        int number = firstWaiting();
        if (number < 0 || number >= sheets.size()) {
            throw new NoSuchElementException("no sheet waits");
        }
        Sheet sheet = sheets.get(number);
        sheet.state = PRINTED;
        for (int i = 0; i < sheet.questions.size(); i++) {
            Question question = sheet.questions.get(i);
            question.isHeld = false;
            question.printedWeek = thisWeek;
        }
        settlePlans();
        return number;
    }

    public int cancel(int sheet) throws IndexOutOfBoundsException, UnsupportedOperationException {
        Sheet cancelled = sheetOf(sheet);
        if (cancelled.state != SPOOLED) {
            throw new UnsupportedOperationException("the sheet does not wait");
        }
        cancelled.state = CANCELLED;
        for (int i = 0; i < cancelled.questions.size(); i++) {
            cancelled.questions.get(i).isHeld = false;
        }
        settlePlans();
        return cancelled.questions.size();
    }

    public int answer(int sheet, int index, boolean isRight)
            throws IndexOutOfBoundsException, UnsupportedOperationException, NoSuchElementException {
        Sheet answered = sheetOf(sheet);
        if (answered.state != PRINTED) {
            throw new UnsupportedOperationException("the sheet is not printed");
        }
        Question question = elementOf(answered.questions, index);
        if (!answered.markAnswered(index)) {
            throw new NoSuchElementException("the question is answered");
        }
        question.takeAnswer(isRight);
        answerCount++;
        if (isRight) {
            rightCount++;
        }
        settlePlans();
        return question.level;
    }

    public char textOf(int sheet, int index)
            throws IndexOutOfBoundsException, NoSuchElementException {
        writeText(sheet, sheetOf(sheet));
        if (index < 0 || index >= text.length()) {
            throw new NoSuchElementException("no such letter");
        }
        return text.charAt(index);
    }

    // ---- Sums and checks

    public int answers() {
        return answerCount;
    }

    public long allLevels() {
        long sum = 0;
        for (int i = 0; i < questions.size(); i++) {
            sum += questions.get(i).level;
        }
        return sum;
    }

    public float rightShare() throws ArithmeticException {
        if (answerCount == 0) {
            throw new ArithmeticException("there are no answers");
        }
        return (float) rightCount / (float) answerCount;
    }

    public double meanLevel() throws ArithmeticException {
        if (questions.isEmpty()) {
            throw new ArithmeticException("there are no questions");
        }
        return (double) allLevels() / (double) questions.size();
    }

    public boolean isSound() {
        return areLevelsAsAnswered() && isNoneHeldTwice() && arePlansKept();
    }

    // ---- Looking up what a number means

    private static boolean isOutside(int number, int least, int most) {
        return number < least || number > most;
    }

    private Question questionOf(int number) {
        if (number < 0 || number >= questions.size()) {
            throw new IndexOutOfBoundsException("no such question");
        }
        return questions.get(number);
    }

    private Plan planOf(int number) {
        if (number < 0 || number >= plans.size()) {
            throw new IndexOutOfBoundsException("no such plan");
        }
        return plans.get(number);
    }

    private Sheet sheetOf(int number) {
        if (number < 0 || number >= sheets.size()) {
            throw new IndexOutOfBoundsException("no such sheet");
        }
        return sheets.get(number);
    }

    private Question hitOf(int index) {
        return elementOf(hits, index);
    }

    private static Question elementOf(ArrayList<Question> list, int index) {
        if (index < 0 || index >= list.size()) {
            throw new NoSuchElementException("no such question in the list");
        }
        return list.get(index);
    }

    // ---- Searching

    /** The words of the row as bits, so that a word that stands there twice counts once. */
    private int wordsOfRow() {
        int bits = 0;
        for (int i = 0; i < rowCount && i < ROW_LENGTH; i++) {
            bits |= 1 << row[i];
        }
        return bits;
    }

    /** Behind the hits of the same rank, because questions come by rising numbers. */
    private int placeAmongHits(int rank) {
        int place = 0;
        while (place < hits.size() && hits.get(place).rank >= rank) {
            place++;
        }
        return place;
    }

    // ---- Twins

    private void joinFamilies(int kept, int lost) {
        for (int i = 0; i < questions.size(); i++) {
            if (questions.get(i).family == lost) {
                questions.get(i).family = kept;
            }
        }
    }

    private int countTwins(Question question) {
        int count = 0;
        for (int i = 0; i < questions.size(); i++) {
            if (questions.get(i) != question && questions.get(i).family == question.family) {
                count++;
            }
        }
        return count;
    }

    /** Whether one of the first so many of a list is the question itself or a twin of it. */
    private static boolean hasRelative(ArrayList<Question> list, int many, Question question) {
        for (int i = 0; i < many && i < list.size(); i++) {
            if (list.get(i).family == question.family) {
                return true;
            }
        }
        return false;
    }

    // ---- Plans that let go and take

    private boolean isOpen(Plan plan) {
        return !plan.isDropped && plan.week >= thisWeek;
    }

    private boolean isAvailable(Question question) {
        if (question.isHeld) {
            return false;
        }
        return question.printedWeek == NEVER || thisWeek - question.printedWeek > REST_WEEKS;
    }

    /** All let go before the first one takes, because a plan may take what a later one lets go. */
    private void settlePlans() {
        for (int i = 0; i < plans.size(); i++) {
            if (isOpen(plans.get(i))) {
                letGoUnfit(plans.get(i));
            } else {
                letGoAll(plans.get(i));
            }
        }
        for (int i = 0; i < plans.size(); i++) {
            if (isOpen(plans.get(i))) {
                fill(plans.get(i));
            }
        }
    }

    private static void letGoUnfit(Plan plan) {
        for (int i = plan.held.size() - 1; i >= 0; i--) {
            if (!isFit(plan, i)) {
                plan.held.remove(i).isHeld = false;
            }
        }
    }

    private static boolean isFit(Plan plan, int index) {
        Question question = elementOf(plan.held, index);
        return question.kindNow() == plan.kind && !hasRelative(plan.held, index, question);
    }

    private static void letGoAll(Plan plan) {
        for (int i = 0; i < plan.held.size(); i++) {
            plan.held.get(i).isHeld = false;
        }
        plan.held.clear();
    }

    private static void close(Plan plan) {
        letGoAll(plan);
        plan.isDropped = true;
    }

    private void fill(Plan plan) {
        for (int i = 0; i < questions.size() && plan.missing() > 0; i++) {
            Question question = questions.get(i);
            if (isCandidate(question, plan.kind, plan.held)) {
                plan.held.add(question);
                question.isHeld = true;
            }
        }
    }

    private boolean isCandidate(Question question, char kind, ArrayList<Question> chosen) {
        return question.kindNow() == kind && isAvailable(question)
                && !hasRelative(chosen, chosen.size(), question);
    }

    // ---- Drawing and spooling

    /** Fills the list of drawn questions; false if there were no candidates for one of them. */
    private boolean drawQuestions(int seed, int easy, int middle, int hard) {
        drawn.clear();
        int draw = seed;
        for (int i = 0; i < easy + middle + hard; i++) {
            gatherCandidates(i < easy ? EASY : i < easy + middle ? MIDDLE : HARD);
            int count = candidates.size();
            if (count == 0) {
                return false;
            }
            drawn.add(elementOf(candidates, Math.floorMod(draw, count)));
            draw = (draw * 5 + 3) % DRAWS;
        }
        return true;
    }

    private void gatherCandidates(char kind) {
        candidates.clear();
        for (int i = 0; i < questions.size(); i++) {
            if (isCandidate(questions.get(i), kind, drawn)) {
                candidates.add(questions.get(i));
            }
        }
    }

    private int spool(Sheet sheet) {
        for (int i = 0; i < sheet.questions.size(); i++) {
            sheet.questions.get(i).isHeld = true;
        }
        sheets.add(sheet);
        settlePlans();
        return sheets.size() - 1;
    }

    private int firstWaiting() {
        for (int i = 0; i < sheets.size(); i++) {
            if (sheets.get(i).state == SPOOLED) {
                return i;
            }
        }
        return -1;
    }

    private void writeText(int number, Sheet sheet) {
        text.setLength(0);
        text.append(number).append(':');
        for (int i = 0; i < sheet.questions.size(); i++) {
            if (i > 0) {
                text.append(',');
            }
            text.append(sheet.questions.get(i).number);
        }
    }

    // ---- What isSound asks

    private boolean areLevelsAsAnswered() {
        for (int i = 0; i < questions.size(); i++) {
            if (questions.get(i).level != questions.get(i).levelByAnswers()) {
                return false;
            }
        }
        return true;
    }

    /** Counts anew, because the marks on the questions are a part of what is checked. */
    private boolean isNoneHeldTwice() {
        for (int i = 0; i < questions.size(); i++) {
            questions.get(i).holders = 0;
        }
        for (int i = 0; i < plans.size(); i++) {
            countHolder(plans.get(i).held);
        }
        for (int i = 0; i < sheets.size(); i++) {
            if (sheets.get(i).state == SPOOLED) {
                countHolder(sheets.get(i).questions);
            }
        }
        for (int i = 0; i < questions.size(); i++) {
            if (questions.get(i).holders > 1) {
                return false;
            }
        }
        return true;
    }

    private static void countHolder(ArrayList<Question> list) {
        for (int i = 0; i < list.size(); i++) {
            list.get(i).holders++;
        }
    }

    private boolean arePlansKept() {
        for (int i = 0; i < plans.size(); i++) {
            Plan plan = plans.get(i);
            for (int j = 0; j < plan.held.size(); j++) {
                if (!isFit(plan, j)) {
                    return false;
                }
            }
        }
        return true;
    }

    private static final class Question {
        final int number;
        final int[] words;
        final int firstLevel;
        int level;
        // A sheet has a question at most once, so a question has no more answers than there are sheets.
        final boolean[] rights = new boolean[MOST_SHEETS];
        int rightsCount;
        // Twins bear the same family, and all others different ones.
        int family;
        // Kept from the last search; a hit's rank must stay when the row changes.
        int rank;
        boolean isHeld;
        int holders;
        int printedWeek = NEVER;

        Question(int number, int[] words, int level) {
            this.number = number;
            this.words = words;
            this.firstLevel = level;
            this.level = level;
            this.family = number;
        }

        char kindNow() {
            if (level < MIDDLE_FROM) {
                return EASY;
            }
            return level < HARD_FROM ? MIDDLE : HARD;
        }

        int rankFor(int sought) {
            int met = 0;
            int sum = 0;
            for (int word : words) {
                int bit = 1 << word;
                if ((sought & bit) != 0) {
                    sum += (met & bit) == 0 ? 11 : 1;
                    met |= bit;
                }
            }
            return sum;
        }

        void takeAnswer(boolean isRight) {
            if (rightsCount < rights.length) {
                rights[rightsCount] = isRight;
                rightsCount++;
                level = shifted(level, isRight);
            }
        }

        int levelByAnswers() {
            int anew = firstLevel;
            for (int i = 0; i < rightsCount && i < rights.length; i++) {
                anew = shifted(anew, rights[i]);
            }
            return anew;
        }

        private static int shifted(int level, boolean isRight) {
            if (isRight) {
                return Math.max(0, level - 1 - level / 10);
            }
            return Math.min(MOST_LEVEL, level + 1 + (MOST_LEVEL - level) / 10);
        }
    }

    private static final class Plan {
        final int week;
        final char kind;
        final int many;
        final ArrayList<Question> held = new ArrayList<>();
        boolean isDropped;

        Plan(int week, char kind, int many) {
            this.week = week;
            this.kind = kind;
            this.many = many;
        }

        int missing() {
            return many - held.size();
        }
    }

    private static final class Sheet {
        final ArrayList<Question> questions = new ArrayList<>();
        final boolean[] isAnswered;
        char state = SPOOLED;

        Sheet(ArrayList<Question> chosen) {
            for (int i = 0; i < chosen.size(); i++) {
                questions.add(chosen.get(i));
            }
            isAnswered = new boolean[questions.size()];
        }

        /** Returns false if the question at the index is answered, or there is none. */
        boolean markAnswered(int index) {
            if (index < 0 || index >= isAnswered.length || isAnswered[index]) {
                return false;
            }
            isAnswered[index] = true;
            return true;
        }
    }
}
