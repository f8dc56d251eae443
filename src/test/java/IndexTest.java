/** Promises 11 to 13: searches, their hits and ranks. */
public final class IndexTest {
    public static void main(String[] args) {
        promise11Search();
        promise12HitAt();
        promise13RankAt();
        hitsStayUntilTheNextSearch();
        Checks.finish("IndexTest");
    }

    private static Quizspool bank() {
        Quizspool x = new Quizspool();
        Machines.addQuestion(x, 1, 5);
        Machines.addQuestion(x, 1, 3, 3, 3, 3, 3, 3);
        Machines.addQuestion(x, 1, 7, 8);
        Machines.addQuestion(x, 1, 5, 3);
        Machines.addQuestion(x, 1, 5);
        Machines.addQuestion(x, 1, 3, 9, 5);
        return x;
    }

    private static void promise11Search() {
        Quizspool x = bank();
        Checks.dueThrow("search of an empty row", Checks.UNSUPPORTED, () -> x.search());
        x.type(5);
        Checks.due("search 5", 4, () -> x.search());
        x.type(3);
        Checks.due("search 5 3, the row stays", 5, () -> x.search());
        Checks.due("the row behind the search", 2, () -> x.erase());
        x.type(29);
        Checks.due("search of a word that no question has", 0, () -> x.search());
        Checks.dueThrow("hits of none", Checks.NO_SUCH, () -> x.hitAt(0));
        Quizspool zero = Machines.withLevels(1);
        zero.type(1);
        Checks.due("search of 1 where there is 0 alone", 0, () -> zero.search());
        zero.type(0);
        Checks.due("search of 1 and 0", 1, () -> zero.search());
        Quizspool none = new Quizspool();
        none.type(0);
        Checks.due("search without questions", 0, () -> none.search());
    }

    private static void promise12HitAt() {
        Quizspool x = bank();
        Checks.dueThrow("hitAt(0) before a search", Checks.NO_SUCH, () -> x.hitAt(0));
        x.type(5);
        x.type(3);
        x.search();
        int[] hits = {3, 5, 1, 0, 4};
        for (int i = 0; i < hits.length; i++) {
            int index = i;
            Checks.due("hitAt(" + i + ")", hits[i], () -> x.hitAt(index));
        }
        Checks.dueThrow("hitAt(5)", Checks.NO_SUCH, () -> x.hitAt(5));
        Checks.dueThrow("hitAt(-1)", Checks.NO_SUCH, () -> x.hitAt(-1));
    }

    private static void promise13RankAt() {
        Quizspool x = bank();
        Checks.dueThrow("rankAt(0) before a search", Checks.NO_SUCH, () -> x.rankAt(0));
        for (int word : new int[] {5, 3, 5, 5}) {
            x.type(word);
        }
        x.search();
        int[] ranks = {22, 22, 16, 11, 11};
        for (int i = 0; i < ranks.length; i++) {
            int index = i;
            Checks.due("rankAt(" + i + ")", ranks[i], () -> x.rankAt(index));
        }
        Checks.dueThrow("rankAt(5)", Checks.NO_SUCH, () -> x.rankAt(5));
        Checks.dueThrow("rankAt(-1)", Checks.NO_SUCH, () -> x.rankAt(-1));
        x.erase();
        for (int word : new int[] {0, 1, 2, 28, 29, 3}) {
            x.type(word);
        }
        Machines.addQuestion(x, 1);
        for (int word : new int[] {29, 28, 3, 2, 1, 0}) {
            x.type(word);
        }
        Checks.due("search of six words", 4, () -> x.search());
        Checks.due("all six words", 66, () -> x.rankAt(0));
        Checks.due("the question of all six", 6, () -> x.hitAt(0));
    }

    private static void hitsStayUntilTheNextSearch() {
        Quizspool x = bank();
        x.type(7);
        x.search();
        x.erase();
        Checks.dueThrow("a search that is refused", Checks.UNSUPPORTED, () -> x.search());
        Machines.addQuestion(x, 1, 7, 7, 7);
        x.type(3);
        Checks.due("the hit stays", 2, () -> x.hitAt(0));
        Checks.due("its rank stays", 11, () -> x.rankAt(0));
        Checks.dueThrow("a later question is no hit", Checks.NO_SUCH, () -> x.hitAt(1));
    }
}
