/** The edges that the promises 14 to 21 name: weeks, plans, and free questions. */
final class EdgesOfPlans {
    private EdgesOfPlans() {
    }

    static void run() {
        weeks();
        plan();
        refusedPlans();
        drop();
        held();
        heldAt();
        lacks();
        isFree();
    }

    /** The week 999 lies behind the 512th call, but the class is to refuse the next one all the same. */
    private static Quizspool inLastWeek() {
        Quizspool x = Machines.busy();
        while (x.week() < 999) {
            x.nextWeek();
        }
        return x;
    }

    private static void weeks() {
        Edges.test("Promise 14", "Returns the week.", () -> {
            Checks.due("the first week", 0, () -> new Quizspool().week());
            Checks.due("the last week", 999, () -> inLastWeek().week());
        });
        Edges.test("Promise 15", "Returns the week then.", () -> {
            Checks.due("the week behind the first", 1, () -> new Quizspool().nextWeek());
            Quizspool x = new Quizspool();
            for (int week = 1; week < 999; week++) {
                x.nextWeek();
            }
            Checks.due("the week behind 998", 999, () -> x.nextWeek());
        });
        Edges.test("Promise 15", "Throws `IllegalStateException` if it is the week 999", () ->
            Edges.refused("a week behind 999", Checks.STATE, EdgesOfPlans::inLastWeek, x -> x.nextWeek()));
    }

    private static void plan() {
        Edges.test("Promise 16", "- `week`: the week, from this one to 999", () -> {
            Checks.due("for the week 0", 0, () -> new Quizspool().plan(0, 'e', 1));
            Checks.due("for the last week", 0, () -> new Quizspool().plan(999, 'e', 1));
            Checks.due("for this week", 4, () -> Machines.busy().plan(1, 'e', 1));
            Checks.due("for the next week", 4, () -> Machines.busy().plan(2, 'e', 1));
            Checks.due("for the last week, in it", 4, () -> inLastWeek().plan(999, 'e', 1));
            Checks.dueThrow("for the week before the last, in it", Checks.ARGUMENT,
                    () -> inLastWeek().plan(998, 'e', 1));
            Quizspool x = Machines.withLevels(1);
            x.plan(999, 'e', 1);
            Checks.due("a plan for the last week holds", 1, () -> x.held(0));
        });
        Edges.test("Promise 16", "- `kind`: 'e', 'm' or 'h'", () -> {
            String kinds = "emh";
            for (int i = 0; i < 3; i++) {
                char kind = kinds.charAt(i);
                Quizspool x = Machines.withLevels(33, 34, 66, 67);
                Checks.due("of the kind " + kind, 0, () -> x.plan(0, kind, 9));
                Checks.due("held by a plan of the kind " + kind, new String[] {"0", "1 2", "3"}[i],
                        () -> Machines.heldBy(x, 0));
            }
        });
        Edges.test("Promise 16", "- `many`: for how many questions, 1 to 9", () -> {
            for (int many : new int[] {1, 9}) {
                Quizspool x = Machines.alike(10, 1);
                Checks.due("for " + many, 0, () -> x.plan(0, 'e', many));
                Checks.due("held by a plan for " + many, many, () -> x.held(0));
            }
        });
        Edges.test("Promise 16", "Returns the number of the plan.", () -> {
            Quizspool x = new Quizspool();
            for (int i = 0; i < 12; i++) {
                Checks.due("the plan " + i, i, () -> x.plan(0, 'e', 1));
            }
        });
    }

    private static void refusedPlans() {
        Edges.test("Promise 16",
            "Throws `IllegalArgumentException` if there is no such week or kind, or the number is out of range",
            () -> {
                for (int week : new int[] {0, 1000, -1, Integer.MIN_VALUE, Integer.MAX_VALUE}) {
                    Edges.refused("a plan for the week " + week, Checks.ARGUMENT, Machines::busy,
                            x -> x.plan(week, 'e', 1));
                }
                for (char kind : "dfglniEMH p0\0\uffff".toCharArray()) {
                    Edges.refused("a plan of the kind " + (int) kind, Checks.ARGUMENT, Machines::busy,
                            x -> x.plan(1, kind, 1));
                }
                for (int many : new int[] {0, 10, -1, Integer.MIN_VALUE, Integer.MAX_VALUE}) {
                    Edges.refused("a plan for so many, " + many, Checks.ARGUMENT, Machines::busy,
                            x -> x.plan(1, 'e', many));
                }
            });
        Edges.test("Promise 16", "Throws `IllegalStateException` if there are 12 plans", () -> {
            Edges.refused("the plan 13", Checks.STATE, Machines::full, x -> x.plan(0, 'e', 9));
            Edges.refused("the plan 13, one dropped", Checks.STATE, () -> {
                Quizspool x = Machines.full();
                x.drop(0);
                return x;
            }, x -> x.plan(999, 'h', 1));
            Edges.refused("the plan 13, all past", Checks.STATE, () -> {
                Quizspool x = Machines.full();
                for (int week = 0; week < 6; week++) {
                    x.nextWeek();
                }
                return x;
            }, x -> x.plan(6, 'h', 1));
        });
    }

    private static Quizspool nineHeld() {
        Quizspool x = Machines.alike(12, 1);
        x.plan(0, 'e', 9);
        return x;
    }

    private static void drop() {
        Edges.test("Promise 17", "- `plan`: the number of the plan", () ->
            Edges.ends("drop", Machines::full, 1, 11, 2, Quizspool::drop));
        Edges.test("Promise 17", "Returns how many questions it held.", () -> {
            Checks.due("of nine", 9, () -> nineHeld().drop(0));
            Checks.due("of one", 1, () -> Machines.busy().drop(2));
            Checks.due("of none", 0, () -> Machines.full().drop(10));
            Checks.due("of a past one", 0, () -> Machines.busy().drop(0));
        });
        Edges.test("Promise 17", "Throws `IndexOutOfBoundsException` if there is no such plan", () ->
            Edges.noSuchPlan("drop", Quizspool::drop));
        Edges.test("Promise 17", "Throws `UnsupportedOperationException` if it is dropped", () -> {
            Edges.refused("drop again", Checks.UNSUPPORTED, Machines::busy, x -> x.drop(3));
            Edges.refused("drop a past one again", Checks.UNSUPPORTED, () -> {
                Quizspool x = Machines.busy();
                x.drop(0);
                return x;
            }, x -> x.drop(0));
            Edges.refused("drop one of which a quiz was made", Checks.UNSUPPORTED, () -> {
                Quizspool x = Machines.busy();
                x.quizOf(1);
                return x;
            }, x -> x.drop(1));
        });
    }

    private static void held() {
        Edges.test("Promise 18", "- `plan`: the number of the plan", () ->
            Edges.ends("held", Machines::full, 1, 11, 2, Quizspool::held));
        Edges.test("Promise 18", "Returns the number of questions.", () -> {
            Checks.due("as many as it is for", 9, () -> nineHeld().held(0));
            Checks.due("none", 0, () -> Machines.full().held(6));
            Checks.due("of a past plan", 0, () -> Machines.busy().held(0));
            Checks.due("of a dropped plan", 0, () -> Machines.busy().held(3));
        });
        Edges.test("Promise 18", "Throws `IndexOutOfBoundsException` if there is no such plan", () ->
            Edges.noSuchPlan("held", Quizspool::held));
    }

    private static void heldAt() {
        Edges.test("Promise 19", "- `plan`: the number of the plan", () ->
            Edges.ends("heldAt", Machines::full, 34, 11, 17, (x, number) -> x.heldAt(number, 0)));
        Edges.test("Promise 19", "- `index`: the index, from 0", () -> {
            Edges.ends("heldAt of nine", EdgesOfPlans::nineHeld, 0, 8, 8, (x, i) -> x.heldAt(0, i));
            Edges.ends("heldAt of two", Machines::full, 17, 1, 18, (x, i) -> x.heldAt(11, i));
        });
        Edges.test("Promise 19", "Throws `IndexOutOfBoundsException` if there is no such plan", () ->
            Edges.noSuchPlan("heldAt", (x, number) -> x.heldAt(number, 0)));
        Edges.test("Promise 19", "Throws `NoSuchElementException` if there is no such question", () -> {
            Edges.noSuch("heldAt of nine", Checks.NO_SUCH, EdgesOfPlans::nineHeld, 9, (x, i) -> x.heldAt(0, i));
            Edges.noSuch("heldAt of two", Checks.NO_SUCH, Machines::busy, 2, (x, i) -> x.heldAt(1, i));
            Edges.noSuch("heldAt of none", Checks.NO_SUCH, Machines::full, 0, (x, i) -> x.heldAt(6, i));
            Edges.noSuch("heldAt of a past one", Checks.NO_SUCH, Machines::busy, 0, (x, i) -> x.heldAt(0, i));
            Edges.noSuch("heldAt of a dropped one", Checks.NO_SUCH, Machines::busy, 0,
                    (x, i) -> x.heldAt(3, i));
        });
    }

    private static void lacks() {
        Edges.test("Promise 20", "- `plan`: the number of the plan", () -> {
            Edges.ends("lacks", Machines::full, 0, 11, 0, Quizspool::lacks);
            Checks.due("lacks of one without any", 1, () -> Machines.full().lacks(10));
        });
        Edges.test("Promise 20", "Returns the number of questions, 0 if it is past or dropped.", () -> {
            Quizspool x = new Quizspool();
            x.plan(0, 'e', 9);
            x.plan(1, 'e', 4);
            Checks.due("all nine", 9, () -> x.lacks(0));
            Checks.due("of a later week", 4, () -> x.lacks(1));
            x.nextWeek();
            Checks.due("past", 0, () -> x.lacks(0));
            Checks.due("of this week", 4, () -> x.lacks(1));
            x.drop(1);
            Checks.due("dropped", 0, () -> x.lacks(1));
            Checks.due("none of nine", 0, () -> nineHeld().lacks(0));
        });
        Edges.test("Promise 20", "Throws `IndexOutOfBoundsException` if there is no such plan", () ->
            Edges.noSuchPlan("lacks", Quizspool::lacks));
    }

    private static void isFree() {
        Edges.test("Promise 21", "- `question`: the number of the question", () -> {
            Edges.ends("isFree", Machines::full, false, 39, false, Quizspool::isFree);
            Edges.ends("isFree of", () -> Machines.alike(40, 1), true, 39, true, Quizspool::isFree);
        });
        Edges.test("Promise 21", "Throws `IndexOutOfBoundsException` if there is no such question", () ->
            Edges.noSuchQuestion("isFree", Quizspool::isFree));
    }
}
