import java.util.Random;

/** Runs of at most 512 random calls, each answered by the class and by the model alike. */
public final class ModelTest {
    private static final int RUNS = 1500;
    private static final int CALLS = 512;
    private static final char[] KINDS = {'e', 'm', 'h'};

    private final Random random;
    private final Quizspool x = new Quizspool();
    private final Model m = new Model();
    private final int reach;
    private final int plainLevel;
    private final int rarePercent;
    private int questions;
    private int plans;
    private int sheets;

    private ModelTest(long seed) {
        random = new Random(seed);
        reach = 1 + random.nextInt(6);
        plainLevel = new int[] {30, 34, 60, 67, 0, 100}[random.nextInt(6)];
        rarePercent = random.nextInt(12);
    }

    public static void main(String[] args) {
        for (int run = 0; run < RUNS; run++) {
            new ModelTest(run).play(run);
        }
        Checks.finish("ModelTest");
    }

    private void play(int run) {
        int adds = random.nextInt(41);
        for (int i = 0, calls = 0; calls < CALLS; i++, calls++) {
            if (i < adds) {
                ask(run, 0);
                calls++;
                ask(run, 2);
            } else {
                ask(run, pickCall());
            }
        }
    }

    /** Calls that use up what there is only once, such as plans, are made more seldom. */
    private int pickCall() {
        int call = random.nextInt(36);
        boolean isScarce = call == 14 || call == 15 || call == 16 || call == 28 || call == 3;
        return isScarce && random.nextInt(100) > 15 + 3 * rarePercent ? random.nextInt(36) : call;
    }

    private int number(int count) {
        if (random.nextInt(100) < rarePercent) {
            int[] odd = {-1, count, count + 1, Integer.MIN_VALUE, Integer.MAX_VALUE};
            return odd[random.nextInt(odd.length)];
        }
        return count == 0 ? 0 : random.nextInt(count);
    }

    private int aLevel() {
        if (random.nextInt(3) == 0) {
            return number(101);
        }
        return Math.min(100, Math.max(0, plainLevel + random.nextInt(9) - 4));
    }

    private char aKind() {
        return random.nextInt(100) < rarePercent ? (char) random.nextInt(65536)
                : KINDS[random.nextInt(3)];
    }

    private int aWeek() {
        return random.nextInt(100) < rarePercent ? random.nextInt(1003) - 1
                : m.week() + random.nextInt(reach);
    }

    private void ask(int run, int call) {
        int a = number(questions);
        int b = number(questions);
        int p = number(plans);
        int s = number(sheets);
        int i = number(random.nextInt(8) == 0 ? 30 : 4);
        int w = number(30);
        int level = aLevel();
        boolean is = random.nextInt(4) == 0;
        int week = aWeek();
        char kind = aKind();
        int many = 1 + number(9);
        int[] q = {number(1009), number(3), number(3), number(3)};
        String what = "run " + run + ", call " + call + " of " + a + " " + b + " " + p + " " + s + " " + i;
        if (call < 18) {
            askBank(what, call, a, b, i, w, level);
            askPlans(what, call, p, i, week, kind, many);
        } else {
            askSheets(what, call, s, p, i, is, q);
            askSums(what, call, a);
        }
    }

    private void same(String what, Checks.Call want, Checks.Call got) {
        Checks.due(what, Checks.told(want), got);
    }

    private void askBank(String what, int call, int a, int b, int i, int w, int level) {
        switch (call) {
            case 0, 1 -> same(what, () -> m.type(w % 9), () -> x.type(w % 9));
            case 2 -> {
                same(what, () -> m.add(level), () -> x.add(level));
                questions = Math.min(40, questions + 1);
            }
            case 3 -> same(what, () -> m.twin(a, b), () -> x.twin(a, b));
            case 4 -> same(what, () -> m.areTwins(a, b), () -> x.areTwins(a, b));
            case 5 -> same(what, () -> m.wordAt(a, i), () -> x.wordAt(a, i));
            case 6 -> same(what, () -> m.level(a), () -> x.level(a));
            case 7 -> same(what, () -> m.level(a), () -> x.levelAnew(a));
            case 8 -> same(what, () -> m.kind(a), () -> x.kind(a));
            case 9 -> same(what, () -> m.search(), () -> x.search());
            case 10 -> same(what, () -> m.hit(i, 0), () -> x.hitAt(i));
            case 11 -> same(what, () -> m.hit(i, 1), () -> x.rankAt(i));
            case 12 -> same(what, () -> m.erase(), () -> x.erase());
            default -> { }
        }
    }

    private void askPlans(String what, int call, int p, int i, int week, char kind, int many) {
        switch (call) {
            case 13 -> same(what, () -> m.week(), () -> x.week());
            case 14 -> same(what, () -> m.nextWeek(), () -> x.nextWeek());
            case 15 -> {
                same(what, () -> m.plan(week, kind, many), () -> x.plan(week, kind, many));
                plans = Math.min(12, plans + 1);
            }
            case 16 -> same(what, () -> m.drop(p), () -> x.drop(p));
            case 17 -> {
                same(what, () -> m.held(p), () -> x.held(p));
                same(what, () -> m.heldAt(p, i), () -> x.heldAt(p, i));
                same(what, () -> m.lacks(p), () -> x.lacks(p));
            }
            default -> { }
        }
    }

    private void askSheets(String what, int call, int s, int p, int i, boolean is, int[] q) {
        switch (call) {
            case 18, 19 -> {
                same(what, () -> m.quiz(q[0], q[1], q[2], q[3]),
                        () -> x.quiz(q[0], q[1], q[2], q[3]));
                sheets = Math.min(30, sheets + 1);
            }
            case 20 -> {
                same(what, () -> m.quizOf(p), () -> x.quizOf(p));
                sheets = Math.min(30, sheets + 1);
            }
            case 21 -> same(what, () -> m.size(s), () -> x.size(s));
            case 22 -> same(what, () -> m.questionAt(s, i), () -> x.questionAt(s, i));
            case 23 -> same(what, () -> m.stateOf(s), () -> x.stateOf(s));
            case 24 -> same(what, () -> m.waiting(), () -> x.waiting());
            case 25 -> same(what, () -> m.setJam(is), () -> x.setJam(is));
            case 26, 27 -> same(what, () -> m.print(), () -> x.print());
            case 28 -> same(what, () -> m.cancel(s), () -> x.cancel(s));
            case 29, 30 -> same(what, () -> m.answer(s, i, is), () -> x.answer(s, i, is));
            case 31 -> same(what, () -> m.textOf(s, i), () -> x.textOf(s, i));
            default -> { }
        }
    }

    private void askSums(String what, int call, int a) {
        switch (call) {
            case 32 -> same(what, () -> m.isFree(a), () -> x.isFree(a));
            case 33 -> {
                same(what, () -> m.answers(), () -> x.answers());
                same(what, () -> m.rightShare(), () -> x.rightShare());
            }
            case 34 -> {
                same(what, () -> m.allLevels(), () -> x.allLevels());
                same(what, () -> m.meanLevel(), () -> x.meanLevel());
            }
            case 35 -> same(what, () -> true, () -> x.isSound());
            default -> { }
        }
    }
}
