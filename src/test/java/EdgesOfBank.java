import java.util.function.Supplier;

/** The edges that the promises 1 to 13 name: a new object, the row, the questions, searches. */
final class EdgesOfBank {
    private EdgesOfBank() {
    }

    static void run() {
        newObject();
        type();
        erase();
        add();
        twin();
        areTwins();
        wordAt();
        level();
        levelAnew();
        kind();
        search();
        hitAt();
        rankAt();
    }

    private static Quizspool withRow(Supplier<Quizspool> made, int... words) {
        Quizspool x = made.get();
        x.erase();
        for (int word : words) {
            x.type(word);
        }
        return x;
    }

    private static Quizspool withFullRow(Supplier<Quizspool> made) {
        return withRow(made, 0, 1, 2, 3, 4, 5);
    }

    private static void newObject() {
        Edges.test("Promise 1", "Creates a machine without questions, plans and sheets, in the week 0.", () -> {
            Checks.dueThrow("a new object's question", Checks.INDEX, () -> new Quizspool().level(0));
            Checks.dueThrow("a new object's plan", Checks.INDEX, () -> new Quizspool().held(0));
            Checks.dueThrow("a new object's sheet", Checks.INDEX, () -> new Quizspool().size(0));
            Checks.dueThrow("a new object's hit", Checks.NO_SUCH, () -> new Quizspool().hitAt(0));
            Checks.dueThrow("a new object's mean", Checks.ARITHMETIC, () -> new Quizspool().meanLevel());
            Checks.due("a new object's week", 0, () -> new Quizspool().week());
            Checks.due("a new object's row", 0, () -> new Quizspool().erase());
            Checks.due("a new object's spooler", 0, () -> new Quizspool().waiting());
            Checks.due("a new object's jam", false, () -> new Quizspool().setJam(true));
        });
    }

    private static void type() {
        Edges.test("Promise 2", "- `word`: the word, 0 to 29", () -> {
            Checks.due("type(0)", 1, () -> new Quizspool().type(0));
            Checks.due("type(29)", 1, () -> new Quizspool().type(29));
            Quizspool x = withRow(Quizspool::new, 0, 29);
            x.add(1);
            Checks.due("the least word", 0, () -> x.wordAt(0, 0));
            Checks.due("the greatest word", 29, () -> x.wordAt(0, 1));
        });
        Edges.test("Promise 2", "Returns how many words the row has.", () -> {
            Quizspool x = new Quizspool();
            for (int i = 1; i <= 6; i++) {
                Checks.due("type as number " + i, i, () -> x.type(7));
            }
        });
        Edges.test("Promise 2", "Throws `IllegalArgumentException` if there is no such word", () -> {
            Edges.noSuch("type into an empty row", Checks.ARGUMENT, Quizspool::new, 30, Quizspool::type);
            Edges.noSuch("type into a row", Checks.ARGUMENT, Machines::busy, 30, Quizspool::type);
        });
        Edges.test("Promise 2", "Throws `IllegalStateException` if it has 6", () -> {
            Checks.due("the sixth word", 6, () -> withRow(Quizspool::new, 1, 1, 1, 1, 1).type(29));
            for (int word : new int[] {0, 29}) {
                Edges.refused("type as number 7", Checks.STATE, () -> withFullRow(Machines::busy),
                        x -> x.type(word));
            }
        });
    }

    private static void erase() {
        Edges.test("Promise 3", "Returns how many there were.", () -> {
            Checks.due("erase of an empty row", 0, () -> new Quizspool().erase());
            Checks.due("erase of a word", 1, () -> withRow(Quizspool::new, 0).erase());
            Checks.due("erase of a full row", 6, () -> withFullRow(Quizspool::new).erase());
        });
        Edges.test("Promise 3", "Takes all words out of the row.", () -> {
            Quizspool x = withFullRow(Quizspool::new);
            x.erase();
            Checks.due("erase behind erase", 0, () -> x.erase());
            Checks.dueThrow("a search of no words", Checks.UNSUPPORTED, () -> x.search());
            Checks.due("a row that was full takes words again", 1, () -> x.type(29));
        });
    }

    private static void add() {
        Edges.test("Promise 4", "Adds a question with the words of the row, which is empty then.", () -> {
            Quizspool x = withFullRow(Quizspool::new);
            x.add(1);
            Checks.due("the last of six words", 5, () -> x.wordAt(0, 5));
            Checks.due("the row behind add", 0, () -> x.erase());
            Checks.due("a row of one word", 0, () -> withRow(Quizspool::new, 9).add(1));
        });
        Edges.test("Promise 4", "- `level`: the level, 0 to 100", () -> {
            Checks.due("the level 0", 0, () -> Machines.withLevels(0).level(0));
            Checks.due("the level 100", 100, () -> Machines.withLevels(100).level(0));
        });
        Edges.test("Promise 4", "Returns the number of the question.", () -> {
            Checks.due("the first question", 0, () -> Machines.addQuestion(new Quizspool(), 1, 0));
            Checks.due("the last question", 39, () -> Machines.addQuestion(Machines.alike(39, 1), 1, 0));
        });
        Edges.test("Promise 4", "Throws `IllegalArgumentException` if the level is out of range", () ->
            Edges.noSuch("add with the level", Checks.ARGUMENT, Machines::busy, 101, Quizspool::add));
        Edges.test("Promise 4", "Throws `UnsupportedOperationException` if the row is empty", () -> {
            Edges.refused("add to a new object", Checks.UNSUPPORTED, Quizspool::new, x -> x.add(0));
            Edges.refused("add behind erase", Checks.UNSUPPORTED, () -> withRow(Machines::busy),
                    x -> x.add(100));
            Edges.refused("add behind add", Checks.UNSUPPORTED, () -> Machines.alike(39, 1), x -> x.add(1));
        });
        Edges.test("Promise 4", "Throws `IllegalStateException` if there are 40 questions", () -> {
            Edges.refused("the question 41", Checks.STATE, () -> withRow(Machines::full, 3), x -> x.add(0));
            Edges.refused("the question 41 of six words", Checks.STATE, () -> withFullRow(Machines::full),
                    x -> x.add(100));
        });
    }

    private static void twin() {
        Edges.test("Promise 5", "- `first`: the number of the question", () ->
            Edges.ends("twin with 20", Machines::full, 1, 39, 1, (x, number) -> x.twin(number, 20)));
        Edges.test("Promise 5", "- `second`: the number of another one", () -> {
            Edges.ends("twin of 20 with", Machines::full, 1, 39, 1, (x, number) -> x.twin(20, number));
            Checks.due("the next one", 1, () -> Machines.full().twin(0, 1));
        });
        Edges.test("Promise 5", "Returns how many twins the first one has then.", () -> {
            Quizspool x = Machines.alike(40, 50);
            for (int i = 1; i < 40; i++) {
                int other = i;
                Checks.due("twins of all up to " + i, i, () -> x.twin(0, other));
            }
            Checks.due("twins of all, made again", 39, () -> x.twin(39, 20));
        });
        Edges.test("Promise 5", "Throws `IndexOutOfBoundsException` if there is no such question, for either",
            () -> {
                Edges.noSuchQuestion("twin of 0 with", (x, number) -> x.twin(0, number));
                Edges.noSuchQuestion("twin with 0", (x, number) -> x.twin(number, 0));
            });
        Edges.test("Promise 5", "Throws `IllegalArgumentException` if both are the same", () -> {
            for (int question : new int[] {0, 3, 7}) {
                Edges.refused("twin of itself, " + question, Checks.ARGUMENT, Machines::busy,
                        x -> x.twin(question, question));
            }
            Edges.refused("twin of the last with itself", Checks.ARGUMENT, Machines::full, x -> x.twin(39, 39));
        });
    }

    private static void areTwins() {
        Edges.test("Promise 6", "- `first`: the number of the question", () ->
            Edges.ends("areTwins with 20", EdgesOfBank::threeTwins, true, 39, true,
                    (x, number) -> x.areTwins(number, 20)));
        Edges.test("Promise 6", "- `second`: the number of another one, or the same", () -> {
            Edges.ends("areTwins of 20 with", EdgesOfBank::threeTwins, true, 39, true,
                    (x, number) -> x.areTwins(20, number));
            Edges.ends("areTwins of itself", EdgesOfBank::threeTwins, false, 39, false,
                    (x, number) -> x.areTwins(number, number));
        });
        Edges.test("Promise 6", "Returns whether they are; not of itself.", () -> {
            Checks.due("itself", false, () -> Machines.busy().areTwins(0, 0));
            Checks.due("itself, without twins", false, () -> Machines.busy().areTwins(3, 3));
            Checks.due("its twin", true, () -> Machines.busy().areTwins(0, 6));
            Checks.due("not its twin", false, () -> Machines.busy().areTwins(0, 7));
        });
        Edges.test("Promise 6", "Throws `IndexOutOfBoundsException` if there is no such question, for either",
            () -> {
                Edges.noSuchQuestion("areTwins of 0 with", (x, number) -> x.areTwins(0, number));
                Edges.noSuchQuestion("areTwins with 0", (x, number) -> x.areTwins(number, 0));
                Edges.noSuchQuestion("areTwins of itself", (x, number) -> x.areTwins(number, number));
            });
    }

    private static Quizspool threeTwins() {
        Quizspool x = Machines.full();
        x.twin(0, 20);
        x.twin(20, 39);
        return x;
    }

    private static void wordAt() {
        Edges.test("Promise 7", "- `question`: the number of the question", () ->
            Edges.ends("wordAt", Machines::full, 0, 39, 9, (x, number) -> x.wordAt(number, 0)));
        Edges.test("Promise 7", "- `index`: the index, from 0", () -> {
            Quizspool x = withRow(Quizspool::new, 28, 1, 2, 3, 4, 27);
            x.add(0);
            Checks.due("the first of six words", 28, () -> x.wordAt(0, 0));
            Checks.due("the last of six words", 27, () -> x.wordAt(0, 5));
        });
        Edges.test("Promise 7", "Throws `IndexOutOfBoundsException` if there is no such question", () ->
            Edges.noSuchQuestion("wordAt", (x, number) -> x.wordAt(number, 0)));
        Edges.test("Promise 7", "Throws `NoSuchElementException` if there is no such word", () -> {
            Edges.noSuch("the word of one", Checks.NO_SUCH, Machines::full, 1, (x, i) -> x.wordAt(39, i));
            Edges.noSuch("the word of two", Checks.NO_SUCH, Machines::busy, 2, (x, i) -> x.wordAt(0, i));
            Edges.noSuch("the word of six", Checks.NO_SUCH, () -> {
                Quizspool x = withFullRow(Quizspool::new);
                x.add(50);
                return x;
            }, 6, (x, i) -> x.wordAt(0, i));
        });
    }

    private static void level() {
        Edges.test("Promise 8", "- `question`: the number of the question", () ->
            Edges.ends("level", Machines::full, 0, 39, 78, Quizspool::level));
        Edges.test("Promise 8", "Throws `IndexOutOfBoundsException` if there is no such question", () ->
            Edges.noSuchQuestion("level", Quizspool::level));
    }

    private static void levelAnew() {
        Edges.test("Promise 9", "- `question`: the number of the question", () ->
            Edges.ends("levelAnew", Machines::full, 0, 39, 78, Quizspool::levelAnew));
        Edges.test("Promise 9", "Returns the level of a question by all answers, anew.", () -> {
            Quizspool x = Machines.withLevels(50, 51);
            Checks.due("without answers", 50, () -> x.levelAnew(0));
            for (int sheet = 0; sheet < 30; sheet++) {
                answerNext(x, sheet, sheet % 3 == 0);
                Checks.due("with an answer of the sheet " + sheet, x.level(0), () -> x.levelAnew(0));
            }
            Checks.due("as many answers as there are sheets", 30, () -> x.answers());
            Checks.due("the level of the other question stays", 51, () -> x.levelAnew(1));
        });
        Edges.test("Promise 9", "Throws `IndexOutOfBoundsException` if there is no such question", () ->
            Edges.noSuchQuestion("levelAnew", Quizspool::levelAnew));
    }

    /** Draws the question 0, prints it, answers it, and goes on until it is free again. */
    private static void answerNext(Quizspool x, int sheet, boolean isRight) {
        char kind = x.kind(0);
        x.quiz(0, kind == 'e' ? 1 : 0, kind == 'm' ? 1 : 0, kind == 'h' ? 1 : 0);
        x.print();
        x.answer(sheet, 0, isRight);
        Checks.due("the sheet " + sheet + " has the question 0", 0, () -> x.questionAt(sheet, 0));
        for (int i = 0; i < 3; i++) {
            x.nextWeek();
        }
    }

    private static void kind() {
        Edges.test("Promise 10", "- `question`: the number of the question", () ->
            Edges.ends("kind", Machines::full, 'e', 39, 'h', Quizspool::kind));
        Edges.test("Promise 10", "Returns 'e', 'm' or 'h'.", () -> {
            for (int level = 0; level <= 100; level++) {
                int given = level;
                char due = level <= 33 ? 'e' : level <= 66 ? 'm' : 'h';
                Checks.due("the kind of the level " + level, due, () -> Machines.withLevels(given).kind(0));
            }
        });
        Edges.test("Promise 10", "Throws `IndexOutOfBoundsException` if there is no such question", () ->
            Edges.noSuchQuestion("kind", Quizspool::kind));
    }

    private static void search() {
        Edges.test("Promise 11", "Searches for the words of the row, which stay.", () -> {
            Quizspool x = withFullRow(Quizspool::new);
            x.search();
            Checks.due("a full row behind a search", 6, () -> x.erase());
        });
        Edges.test("Promise 11", "Returns the number of hits.", () -> {
            Checks.due("without questions", 0, () -> withRow(Quizspool::new, 0).search());
            Checks.due("no question has it", 0, () -> withRow(Machines::busy, 29).search());
            Checks.due("one question has it", 1, () -> withRow(Machines::full, 29).search());
            Checks.due("all 40 have it", 40, () -> withRow(() -> Machines.alike(40, 0), 0).search());
        });
        Edges.test("Promise 11", "Throws `UnsupportedOperationException` if the row is empty", () -> {
            Edges.refused("search without words", Checks.UNSUPPORTED, Quizspool::new, x -> x.search());
            Edges.refused("search behind a search", Checks.UNSUPPORTED, () -> withRow(Machines::busy),
                    x -> x.search());
            Edges.refused("search behind add", Checks.UNSUPPORTED, Machines::full, x -> x.search());
        });
    }

    private static Quizspool allHit() {
        Quizspool x = withRow(() -> Machines.alike(40, 0), 0);
        x.search();
        return x;
    }

    private static Quizspool noneHit() {
        Quizspool x = withRow(Machines::busy, 29);
        x.search();
        return x;
    }

    private static void hitAt() {
        Edges.test("Promise 12", "- `index`: the index, from 0", () ->
            Edges.ends("hitAt", EdgesOfBank::allHit, 0, 39, 39, Quizspool::hitAt));
        Edges.test("Promise 12", "Throws `NoSuchElementException` if there is no such hit", () -> {
            Edges.noSuch("hit before a search", Checks.NO_SUCH, Quizspool::new, 0, Quizspool::hitAt);
            Edges.noSuch("hit of none", Checks.NO_SUCH, EdgesOfBank::noneHit, 0, Quizspool::hitAt);
            Edges.noSuch("hit of eight", Checks.NO_SUCH, Machines::busy, 8, Quizspool::hitAt);
            Edges.noSuch("hit of all", Checks.NO_SUCH, EdgesOfBank::allHit, 40, Quizspool::hitAt);
        });
    }

    private static void rankAt() {
        Edges.test("Promise 13", "- `index`: the index, from 0", () ->
            Edges.ends("rankAt", EdgesOfBank::allHit, 11, 39, 11, Quizspool::rankAt));
        Edges.test("Promise 13", "Returns the rank of a hit of the last search, as it was then.", () -> {
            Quizspool x = Machines.busy();
            Checks.due("the first rank", 22, () -> x.rankAt(0));
            Checks.due("the last rank", 11, () -> x.rankAt(7));
            x.erase();
            Checks.due("when the row is empty", 22, () -> x.rankAt(0));
            x.type(29);
            Checks.due("when the row is another", 22, () -> x.rankAt(0));
            Checks.due("a search without hits", 0, () -> x.search());
            Checks.dueThrow("the former rank", Checks.NO_SUCH, () -> x.rankAt(0));
        });
        Edges.test("Promise 13", "Throws `NoSuchElementException` if there is no such hit", () -> {
            Edges.noSuch("rank before a search", Checks.NO_SUCH, Quizspool::new, 0, Quizspool::rankAt);
            Edges.noSuch("rank of none", Checks.NO_SUCH, EdgesOfBank::noneHit, 0, Quizspool::rankAt);
            Edges.noSuch("rank of eight", Checks.NO_SUCH, Machines::busy, 8, Quizspool::rankAt);
            Edges.noSuch("rank of all", Checks.NO_SUCH, EdgesOfBank::allHit, 40, Quizspool::rankAt);
        });
    }
}
