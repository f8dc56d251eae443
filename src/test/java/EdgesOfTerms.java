/** The sentences of the document's terms, each at its edges, but for those on exceptions. */
final class EdgesOfTerms {
    private EdgesOfTerms() {
    }

    static void run() {
        calls();
        shownQuestions();
        questions();
        kinds();
        twins();
        ranks();
        hits();
        weeksAndPlans();
        takenQuestions();
        freeQuestions();
        behindEachCall();
        closedPlans();
        sheets();
        draws();
        candidates();
        quizOfPlan();
        heldSheets();
        spooler();
        answers();
    }

    private static void calls() {
        Edges.test("What it is", "An object is used for at most 512 calls after it has been made; "
            + "what later calls answer is free.", () -> {
                Quizspool x = new Quizspool();
                for (int i = 0; i < 40; i++) {
                    Machines.addQuestion(x, 0, 0, 1, 2, 3, 4, 5); // 7 calls
                }
                for (int i = 0; i < 12; i++) {
                    x.plan(0, 'e', 1);
                }
                for (int i = 0; i < 12; i++) {
                    x.quizOf(i);
                }
                for (int i = 12; i < 30; i++) {
                    x.quiz(0, 1, 0, 0);
                }
                for (int i = 0; i < 30; i++) {
                    x.print();
                    x.answer(i, 0, false);
                }
                for (int call = 40 * 7 + 12 + 30 + 60; call < 511; call++) {
                    x.nextWeek();
                }
                Checks.due("the call 512", 130, () -> x.nextWeek());
            });
    }

    private static void shownQuestions() {
        Edges.test("Terms", "No sheet shows a question that a plan of a later week holds, and levels are "
            + "those that all answers tell.", () -> {
                Quizspool x = Machines.withLevels(10, 11);
                x.plan(1, 'e', 1);
                x.quiz(0, 1, 0, 0);
                Checks.due("drawn is the one that the plan does not hold", "1", () -> Machines.questionsOf(x, 0));
                Checks.dueThrow("the one that the plan holds", Checks.NO_SUCH, () -> x.quiz(0, 1, 0, 0));
                x.plan(9, 'e', 1);
                Checks.due("a plan takes none that waits", 0, () -> x.held(1));
                x.print();
                x.answer(0, 0, false);
                Checks.due("the level by the answer", 11 + 1 + 8, () -> x.level(1));
                Checks.due("the level by all answers", 11 + 1 + 8, () -> x.levelAnew(1));
            });
    }

    private static void questions() {
        Edges.test("Terms", "At most 40 questions are numbered from 0.", () -> {
            Quizspool x = new Quizspool();
            for (int i = 0; i < 40; i++) {
                Checks.due("the number of question " + i, i, () -> Machines.addQuestion(x, 50, 0));
            }
            x.type(0);
            Checks.dueThrow("the question 40", Checks.STATE, () -> x.add(50));
            Checks.due("the last question", 50, () -> x.level(39));
            Checks.dueThrow("the level of the question 40", Checks.INDEX, () -> x.level(40));
        });
        Edges.test("Terms", "A question has 1 to 6 words, numbers from 0 to 29, in an order, a word perhaps "
            + "several times, and a level from 0 to 100.", () -> {
                Quizspool x = new Quizspool();
                Checks.dueThrow("no words", Checks.UNSUPPORTED, () -> x.add(0));
                Checks.due("one word, the level 0", 0, () -> Machines.addQuestion(x, 0, 29));
                Checks.due("six words, the level 100", 1, () -> Machines.addQuestion(x, 100, 29, 0, 7, 7, 0, 29));
                int[] words = {29, 0, 7, 7, 0, 29};
                for (int i = 0; i < 6; i++) {
                    int index = i;
                    Checks.due("the word " + i + " of six", words[i], () -> x.wordAt(1, index));
                }
                for (int word : words) {
                    x.type(word);
                }
                Checks.dueThrow("the word 30 behind six", Checks.ARGUMENT, () -> x.type(30));
                Checks.dueThrow("a seventh word", Checks.STATE, () -> x.type(29));
                Checks.dueThrow("the level 101", Checks.ARGUMENT, () -> x.add(101));
                Checks.dueThrow("the level -1", Checks.ARGUMENT, () -> x.add(-1));
            });
    }

    /** A question of this level on a printed sheet. */
    private static Quizspool printed(int level) {
        Quizspool x = Machines.withLevels(level);
        x.quiz(0, level < 34 ? 1 : 0, level >= 34 && level < 67 ? 1 : 0, level >= 67 ? 1 : 0);
        x.print();
        return x;
    }

    private static void kinds() {
        Edges.test("Terms", "A question is easy, 'e', below the level 34, hard, 'h', from 67 on, otherwise of "
            + "the middle kind, 'm'.", () -> {
                int[] levels = {0, 33, 34, 66, 67, 100};
                for (int i = 0; i < levels.length; i++) {
                    int level = levels[i];
                    Checks.due("the kind of " + level, "eemmhh".charAt(i),
                            () -> Machines.withLevels(level).kind(0));
                }
                kindBehindAnswer(25, false, 33, 'e');
                kindBehindAnswer(26, false, 34, 'm');
                kindBehindAnswer(37, true, 33, 'e');
                kindBehindAnswer(38, true, 34, 'm');
                kindBehindAnswer(62, false, 66, 'm');
                kindBehindAnswer(63, false, 67, 'h');
                kindBehindAnswer(74, true, 66, 'm');
                kindBehindAnswer(75, true, 67, 'h');
            });
    }

    private static void kindBehindAnswer(int level, boolean isRight, int due, char kind) {
        Quizspool x = printed(level);
        Checks.due("the level behind an answer at " + level, due, () -> x.answer(0, 0, isRight));
        Checks.due("the kind behind an answer at " + level, kind, () -> x.kind(0));
    }

    private static void twins() {
        Edges.test("Terms", "Questions can be made twins; twins of one question are twins of each other.",
            () -> {
                Quizspool x = Machines.alike(40, 1);
                for (int i = 0; i < 40; i += 2) {
                    x.twin(i, i + 1);
                }
                Checks.due("of one pair", true, () -> x.areTwins(39, 38));
                Checks.due("of two pairs", false, () -> x.areTwins(1, 2));
                Checks.due("two pairs become one family", 3, () -> x.twin(39, 1));
                Checks.due("the others of the two pairs", true, () -> x.areTwins(38, 0));
                for (int i = 2; i < 38; i++) {
                    x.twin(i, 0);
                }
                Checks.due("all are twins", true, () -> x.areTwins(17, 22));
                Checks.due("of 39 others", 39, () -> x.twin(17, 22));
            });
    }

    private static int rankOf(int[] row, int... words) {
        Quizspool x = new Quizspool();
        Machines.addQuestion(x, 0, words);
        for (int word : row) {
            x.type(word);
        }
        return x.search() == 0 ? 0 : x.rankAt(0);
    }

    private static void ranks() {
        Edges.test("Terms", "The rank of a question for some words is 10 times the number of those words, each "
            + "once, that it has, plus how often it has any of them.", () -> {
                int[] all = {0, 1, 2, 27, 28, 29};
                int[] one = {29};
                int[] same = {29, 29, 29, 29, 29, 29};
                Checks.due("one word", 10 + 1, () -> rankOf(one, 29));
                Checks.due("one word among others", 10 + 1, () -> rankOf(one, 0, 29, 5));
                Checks.due("one word six times", 10 + 6, () -> rankOf(one, 29, 29, 29, 29, 29, 29));
                Checks.due("sought six times", 10 + 1, () -> rankOf(same, 29));
                Checks.due("six times, sought six times", 10 + 6, () -> rankOf(same, same));
                Checks.due("all six words", 60 + 6, () -> rankOf(all, 29, 28, 27, 2, 1, 0));
                Checks.due("two of six words, one twice", 20 + 3, () -> rankOf(all, 1, 3, 28, 1));
                Checks.due("none of them", 0, () -> rankOf(all, 3, 4, 26));
            });
    }

    private static void hits() {
        Edges.test("Terms", "The hits of a search are the questions with at least one of the words, by falling "
            + "ranks, of the same rank by rising numbers.", () -> {
                Quizspool x = new Quizspool();
                int[][] words = {{3}, {4, 4, 4, 4, 4, 4}, {3, 4}, {5}, {4, 3}, {9, 9, 3}, {3, 4, 4}, {3}};
                for (int[] w : words) {
                    Machines.addQuestion(x, 0, w);
                }
                x.type(3);
                x.type(4);
                Checks.due("all but the one with none of them", 7, () -> x.search());
                int[] hits = {6, 2, 4, 1, 0, 5, 7};
                int[] ranks = {23, 22, 22, 16, 11, 11, 11};
                for (int i = 0; i < 7; i++) {
                    int index = i;
                    Checks.due("the hit " + i, hits[i], () -> x.hitAt(index));
                    Checks.due("the rank " + i, ranks[i], () -> x.rankAt(index));
                }
                Checks.dueThrow("the hit 7", Checks.NO_SUCH, () -> x.hitAt(7));
            });
    }

    private static void weeksAndPlans() {
        Edges.test("Terms", "Weeks are counted from 0, the week at first.", () -> {
            Checks.due("the week at first", 0, () -> new Quizspool().week());
            Checks.due("the next one", 1, () -> new Quizspool().nextWeek());
        });
        Edges.test("Terms", "At most 12 plans are numbered from 0.", () -> {
            Quizspool x = new Quizspool();
            for (int i = 0; i < 12; i++) {
                Checks.due("the number of plan " + i, i, () -> x.plan(0, 'm', 1));
            }
            Checks.dueThrow("the plan 12", Checks.STATE, () -> x.plan(0, 'm', 1));
            Checks.due("the last plan", 1, () -> x.lacks(11));
            Checks.dueThrow("what the plan 12 lacks", Checks.INDEX, () -> x.lacks(12));
        });
        Edges.test("Terms", "A plan is for a week that is not past, for a kind, and for a number of questions; "
            + "it holds questions of this kind, in the order in which it took them.", () -> {
                Quizspool x = Machines.withLevels(33, 34, 66, 67, 35);
                x.quiz(0, 0, 1, 0);
                x.nextWeek();
                Checks.dueThrow("for a past week", Checks.ARGUMENT, () -> x.plan(0, 'm', 2));
                Checks.due("for this week", 0, () -> x.plan(1, 'm', 3));
                Checks.due("held first", "2 4", () -> Machines.heldBy(x, 0));
                x.cancel(0);
                Checks.due("the one taken last is the last", "2 4 1", () -> Machines.heldBy(x, 0));
            });
    }

    private static void takenQuestions() {
        Edges.test("Terms", "A plan takes questions, by rising numbers, as long as it has fewer than it is for: "
            + "those of its kind that are free, and no twin of one that it holds.", () -> {
                Quizspool x = Machines.withLevels(90, 1, 2, 50, 3, 4, 5, 6);
                x.twin(2, 1);
                x.quiz(1, 1, 0, 0);
                Checks.due("one that is not free", "2", () -> Machines.questionsOf(x, 0));
                x.plan(0, 'e', 3);
                Checks.due("as many as it is for", "1 4 5", () -> Machines.heldBy(x, 0));
                x.plan(0, 'e', 1);
                Checks.due("what the first did not take", "6", () -> Machines.heldBy(x, 1));
                x.cancel(0);
                Checks.due("the plan that has enough takes none", "1 4 5", () -> Machines.heldBy(x, 0));
                Checks.due("nor the other", "6", () -> Machines.heldBy(x, 1));
                x.plan(0, 'e', 9);
                Checks.due("all that are left", "2 7", () -> Machines.heldBy(x, 2));
                x.drop(0);
                Checks.due("but no twin of one that it holds", "2 7 4 5", () -> Machines.heldBy(x, 2));
                Checks.due("which is free", true, () -> x.isFree(1));
            });
    }

    private static void freeQuestions() {
        Edges.test("Terms", "A question is free if no plan of this or a later week holds it, no sheet holds it, "
            + "and it was not printed in this week or one of the 2 weeks before it.", () -> {
                Quizspool x = Machines.withLevels(1, 2, 50, 90);
                x.plan(0, 'm', 1);
                x.plan(1, 'h', 1);
                x.quiz(0, 1, 0, 0);
                Checks.due("but for plans and sheets", "0100", () -> Machines.freeOnes(x, 4));
                x.nextWeek();
                Checks.due("the plan of the week 0 is past", "0110", () -> Machines.freeOnes(x, 4));
                x.nextWeek();
                Checks.due("both are past", "0111", () -> Machines.freeOnes(x, 4));
                x.print();
                Checks.due("printed in this week", false, () -> x.isFree(0));
                x.nextWeek();
                Checks.due("printed 1 week before", false, () -> x.isFree(0));
                x.nextWeek();
                Checks.due("printed 2 weeks before", false, () -> x.isFree(0));
                x.nextWeek();
                Checks.due("printed 3 weeks before", true, () -> x.isFree(0));
                x.quiz(0, 1, 0, 0);
                x.print();
                Checks.due("printed again", false, () -> x.isFree(0));
            });
    }

    private static void behindEachCall() {
        Edges.test("Terms", "Behind each call, first all plans of this or a later week let go what is not of "
            + "their kind any more, or is a twin of one that they took before it; then each of them, by rising "
            + "numbers, takes.", () -> {
                movesWithLevels();
                staysAtTheEdgeOfItsKind();
                letsTwinsGo();
                takesByRisingNumbers();
            });
    }

    /** Prints the questions 0 and 1 (the levels 26 and 25) and waits until plans can take them again. */
    private static Quizspool atTheEdge() {
        Quizspool x = Machines.withLevels(26, 25);
        x.quiz(0, 2, 0, 0);
        x.print();
        x.nextWeek();
        x.nextWeek();
        x.plan(9, 'm', 1);
        x.plan(2, 'e', 9);
        x.plan(9, 'e', 9);
        x.plan(9, 'm', 9);
        Checks.due("nothing is free", 0, () -> x.held(1));
        return x;
    }

    private static void movesWithLevels() {
        Quizspool x = atTheEdge();
        x.nextWeek();
        Checks.due("the past plan takes none", "", () -> Machines.heldBy(x, 1));
        Checks.due("the easy ones are taken", "0 1", () -> Machines.heldBy(x, 2));
        Checks.due("a wrong answer at 26", 34, () -> x.answer(0, 0, false));
        Checks.due("it is let go", "1", () -> Machines.heldBy(x, 2));
        Checks.due("a plan before that one takes it in the same call", "0", () -> Machines.heldBy(x, 0));
        Checks.due("none is left for the last one", "", () -> Machines.heldBy(x, 3));
    }

    private static void staysAtTheEdgeOfItsKind() {
        Quizspool x = atTheEdge();
        x.nextWeek();
        Checks.due("a wrong answer at 25", 33, () -> x.answer(0, 1, false));
        Checks.due("it is held on", "0 1", () -> Machines.heldBy(x, 2));
    }

    private static void letsTwinsGo() {
        Quizspool x = Machines.withLevels(1, 2, 3, 4);
        x.quiz(0, 1, 0, 0);
        x.plan(0, 'e', 3);
        x.cancel(0);
        x.plan(5, 'e', 1);
        Checks.due("the first plan", "1 2 3", () -> Machines.heldBy(x, 0));
        Checks.due("the second plan", "0", () -> Machines.heldBy(x, 1));
        x.twin(2, 3);
        Checks.due("the twin taken later is let go", "1 2", () -> Machines.heldBy(x, 0));
        Checks.due("a twin of another plan's is held on", 1, () -> x.twin(0, 1));
        Checks.due("the first plan still", "1 2", () -> Machines.heldBy(x, 0));
        Checks.due("the second plan still", "0", () -> Machines.heldBy(x, 1));
        Quizspool y = Machines.withLevels(1, 2);
        y.quiz(0, 1, 0, 0);
        y.plan(0, 'e', 2);
        y.cancel(0);
        y.twin(0, 1);
        Checks.due("the one taken first, not the lesser number", "1", () -> Machines.heldBy(y, 0));
    }

    private static void takesByRisingNumbers() {
        Quizspool x = new Quizspool();
        x.plan(9, 'e', 1);
        x.plan(0, 'e', 1);
        Machines.addQuestion(x, 1, 0);
        Checks.due("behind add, the plan of the least number", "0", () -> Machines.heldBy(x, 0));
        Machines.addQuestion(x, 1, 0);
        Checks.due("behind add, the next plan", "1", () -> Machines.heldBy(x, 1));
        x.plan(9, 'e', 2);
        x.drop(0);
        Checks.due("behind drop", "0", () -> Machines.heldBy(x, 2));
        x.nextWeek();
        Checks.due("behind nextWeek", "0 1", () -> Machines.heldBy(x, 2));
        Machines.addQuestion(x, 1, 0);
        x.quiz(0, 1, 0, 0);
        x.plan(1, 'e', 1);
        Checks.due("none for the last one", 1, () -> x.lacks(3));
        x.cancel(0);
        Checks.due("behind cancel", "2", () -> Machines.heldBy(x, 3));
        x.twin(0, 1);
        Checks.due("behind twin", "0", () -> Machines.heldBy(x, 2));
        Checks.due("which the others have no use for", true, () -> x.isFree(1));
    }

    private static void closedPlans() {
        Edges.test("Terms", "Plans of past weeks, and dropped ones, hold nothing, and take none.", () -> {
            Quizspool x = Machines.withLevels(1, 50);
            x.plan(0, 'e', 9);
            x.plan(1, 'm', 9);
            Checks.due("the one of this week", 1, () -> x.held(0));
            x.nextWeek();
            Checks.due("the one of last week", 0, () -> x.held(0));
            Checks.due("the one that is of this week now", 1, () -> x.held(1));
            x.drop(1);
            Checks.due("the dropped one", 0, () -> x.held(1));
            Machines.addQuestion(x, 2, 0);
            Machines.addQuestion(x, 51, 0);
            Checks.due("the past one takes none", 0, () -> x.held(0));
            Checks.due("the dropped one takes none", 0, () -> x.held(1));
            Checks.due("all are free", "1111", () -> Machines.freeOnes(x, 4));
        });
    }

    private static void sheets() {
        Edges.test("Terms", "At most 30 sheets are numbered from 0.", () -> {
            Quizspool x = Machines.alike(40, 1);
            x.plan(0, 'e', 1);
            for (int i = 0; i < 30; i++) {
                Checks.due("the number of sheet " + i, i, () -> x.quiz(0, 1, 0, 0));
            }
            Checks.dueThrow("the sheet 30", Checks.STATE, () -> x.quiz(0, 1, 0, 0));
            Checks.dueThrow("the sheet 30 of a plan", Checks.STATE, () -> x.quizOf(0));
            Checks.due("the last sheet", 's', () -> x.stateOf(29));
            Checks.dueThrow("the state of the sheet 30", Checks.INDEX, () -> x.stateOf(30));
        });
    }

    private static String drawn(Quizspool x, int seed, int easy, int middle, int hard) {
        return Machines.questionsOf(x, x.quiz(seed, easy, middle, hard));
    }

    private static void draws() {
        Edges.test("Terms", "The draw begins with the seed; behind each question, it becomes itself times 5 plus "
            + "3, modulo 1009.", () -> {
                // The second draws: 3; 1008, the greatest below 1009; 1013; 2 * 1009; 5043; 756 again.
                int[] seeds = {0, 201, 202, 403, 1008, 756};
                String[] due = {"0 4 20", "1 34", "2 5", "3 0 5", "8 33 15", "36 15 35"};
                for (int i = 0; i < seeds.length; i++) {
                    int seed = seeds[i];
                    int many = due[i].split(" ").length;
                    Checks.due("drawn with the seed " + seed, due[i],
                            () -> drawn(Machines.alike(40, 1), seed, many, 0, 0));
                }
                Quizspool x = Machines.withLevels(1, 2, 3, 50, 51, 52, 53, 54, 90, 91, 92);
                Checks.due("it goes on behind a kind, 202, 4, 23", "1 7 10", () -> drawn(x, 202, 1, 1, 1));
                Checks.due("the next quiz begins with its own seed", "2 3", () -> drawn(x, 1, 1, 1, 0));
            });
    }

    private static void candidates() {
        Edges.test("Terms", "A quiz is drawn by three numbers of questions, for the kinds 'e', 'm' and 'h', in "
            + "this order: each next question is that one of the candidates, by rising numbers, whose place is "
            + "the draw modulo their number; candidates are all free questions of the kind that are not on the "
            + "sheet, and no twins of one that is.", () -> {
                int[] levels = {90, 50, 10, 67, 34, 33, 100, 66, 0};
                // The draws 0, 3, 18, 93, 468 and 325 of 2 5 8, 5 8, 1 4 7, 4 7, 0 3 6 and 3 6.
                Checks.due("by kinds", "2 8 1 7 0 6", () -> drawn(Machines.withLevels(levels), 0, 2, 2, 2));
                for (int seed = 0; seed < 6; seed++) {
                    int given = seed;
                    Checks.due("the place of the seed " + seed, String.valueOf(seed % 3),
                            () -> drawn(Machines.withLevels(1, 2, 3), given, 1, 0, 0));
                }
                Checks.due("one candidate", "0", () -> drawn(Machines.withLevels(1), 1008, 1, 0, 0));
                Quizspool x = Machines.withLevels(1, 2, 3, 4, 50, 51, 90);
                x.twin(0, 1);
                x.twin(1, 4);
                x.twin(2, 6);
                x.plan(4, 'e', 1);
                Checks.due("the plan has the first", "0", () -> Machines.heldBy(x, 0));
                Checks.due("neither held ones nor twins", "1 3 5", () -> drawn(x, 0, 2, 1, 0));
                Checks.due("a twin of what another sheet has", "4", () -> drawn(x, 0, 0, 1, 0));
                Checks.dueThrow("a hard twin of the easy one", Checks.NO_SUCH, () -> x.quiz(0, 1, 0, 1));
                Checks.due("without the easy one", "6", () -> drawn(x, 0, 0, 0, 1));
            });
    }

    private static void quizOfPlan() {
        Edges.test("Terms", "A quiz of a plan has all questions that the plan of this week holds, in their order; "
            + "the plan lets them go, and is dropped.", () -> {
                Quizspool x = Machines.withLevels(1, 2, 3);
                x.quiz(0, 1, 0, 0);
                x.plan(0, 'e', 9);
                x.plan(0, 'e', 9);
                x.cancel(0);
                Checks.due("the plan's order", "1 2 0", () -> Machines.heldBy(x, 0));
                Checks.due("the sheet", 1, () -> x.quizOf(0));
                Checks.due("all that it held", "1 2 0", () -> Machines.questionsOf(x, 1));
                Checks.due("the plan holds nothing", 0, () -> x.held(0));
                Checks.due("the plan lacks nothing", 0, () -> x.lacks(0));
                Checks.dueThrow("the plan is dropped", Checks.UNSUPPORTED, () -> x.drop(0));
                Checks.due("another plan takes none of them", 0, () -> x.held(1));
                Checks.due("the sheet holds them", "000", () -> Machines.freeOnes(x, 3));
                x.cancel(1);
                Checks.due("the dropped plan takes none of them again", 0, () -> x.held(0));
                Checks.due("another one does", "0 1 2", () -> Machines.heldBy(x, 1));
            });
    }

    private static void heldSheets() {
        Edges.test("Terms", "A sheet holds its questions as long as it is spooled.", () -> {
            Quizspool x = Machines.withLevels(1, 2);
            x.quiz(0, 1, 0, 0);
            x.quiz(0, 1, 0, 0);
            for (int week = 0; week < 4; week++) {
                Checks.due("in the week " + week, "00", () -> Machines.freeOnes(x, 2));
                x.nextWeek();
            }
            x.plan(4, 'e', 2);
            Checks.due("none for a plan", 2, () -> x.lacks(0));
            x.cancel(1);
            Checks.due("the question of the cancelled one", "1", () -> Machines.heldBy(x, 0));
            x.print();
            x.plan(9, 'e', 2);
            Checks.due("the printed one is not free in this week", 0, () -> x.held(1));
            x.nextWeek();
            Checks.due("nor in the next one", "1", () -> Machines.heldBy(x, 1));
            x.nextWeek();
            Checks.due("nor in the one behind it", "1", () -> Machines.heldBy(x, 1));
            x.nextWeek();
            Checks.due("then it is, though its sheet has it", "1 0", () -> Machines.heldBy(x, 1));
            Checks.due("the printed sheet", "0", () -> Machines.questionsOf(x, 0));
        });
    }

    private static void spooler() {
        Edges.test("Terms", "The spooler prints the sheets that wait in the order in which they were made, unless "
            + "it is jammed; a printed sheet marks its questions as printed in this week.", () -> {
                Quizspool x = Machines.withLevels(1, 2, 3, 4, 5);
                x.plan(0, 'e', 2);
                x.quiz(0, 2, 0, 0);
                x.quizOf(0);
                x.quiz(0, 1, 0, 0);
                x.cancel(0);
                x.setJam(true);
                Checks.dueThrow("in a jam", Checks.STATE, () -> x.print());
                x.nextWeek();
                x.setJam(false);
                Checks.due("the first that waits", 1, () -> x.print());
                Checks.due("the next that waits", 2, () -> x.print());
                Checks.dueThrow("behind the last", Checks.NO_SUCH, () -> x.print());
                x.nextWeek();
                x.nextWeek();
                Checks.due("2 weeks behind the print, 3 behind the draw", "00101",
                        () -> Machines.freeOnes(x, 5));
                x.nextWeek();
                Checks.due("3 weeks behind the print", "11111", () -> Machines.freeOnes(x, 5));
            });
        Edges.test("Terms", "A cancelled one lets them go.", () -> {
            Quizspool x = Machines.withLevels(1, 50, 90);
            x.quiz(0, 1, 1, 1);
            Checks.due("none is free", "000", () -> Machines.freeOnes(x, 3));
            x.cancel(0);
            Checks.due("all are free, and not as printed", "111", () -> Machines.freeOnes(x, 3));
            Checks.due("a quiz has them again", "0 1 2", () -> drawn(x, 0, 1, 1, 1));
        });
    }

    private static void answers() {
        Edges.test("Terms", "Each question of a printed sheet can be answered once, right or wrong: right, its "
            + "level becomes less by 1 and a tenth of it, rounded down, but not less than 0; wrong, greater by 1 "
            + "and a tenth of what it is below 100, rounded down, but at most 100.", () -> {
                int[][] right = {{0, 0}, {1, 0}, {2, 1}, {9, 8}, {10, 8}, {11, 9}, {19, 17}, {20, 17}, {99, 89},
                    {100, 89}};
                for (int[] shift : right) {
                    Checks.due("right at " + shift[0], shift[1], () -> printed(shift[0]).answer(0, 0, true));
                }
                int[][] wrong = {{100, 100}, {99, 100}, {98, 99}, {91, 92}, {90, 92}, {89, 91}, {81, 83}, {80, 83},
                    {1, 11}, {0, 11}};
                for (int[] shift : wrong) {
                    Checks.due("wrong at " + shift[0], shift[1], () -> printed(shift[0]).answer(0, 0, false));
                }
                Quizspool x = printed(50);
                Checks.due("once", 56, () -> x.answer(0, 0, false));
                Checks.dueThrow("not twice", Checks.NO_SUCH, () -> x.answer(0, 0, false));
                Checks.dueThrow("nor the other way", Checks.NO_SUCH, () -> x.answer(0, 0, true));
                Checks.due("the level of one answer", 56, () -> x.level(0));
            });
    }
}
