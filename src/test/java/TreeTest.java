/** Promises 16 to 19: treeNodes, treeDepth, treeParent, treeCompared. */
public final class TreeTest {
    public static void main(String[] args) {
        anEmptyTree();
        aTree();
        forgottenWordsStay();
        aSearchEntersTheChildrenInReach();
        theDeepestTree();
        wrongInputs();
        Check.finish();
    }

    private static void anEmptyTree() {
        FuzzyFens fens = new FuzzyFens();
        Check.due("treeNodes()", fens.treeNodes(), 0);
        Check.due("treeDepth(fen)", fens.treeDepth(Check.word("fen")), FuzzyFens.NONE);
        Check.due("treeParent(fen)", fens.treeParent(Check.word("fen")), FuzzyFens.NONE);
        for (int k = 0; k <= 3; k++) {
            Check.due("treeCompared(fen, " + k + ")", fens.treeCompared(Check.word("fen"), k), 0);
        }
    }

    private static void aTree() {
        FuzzyFens fens = Check.knowing("fen", "fan", "fens", "fin", "fans", "a", "fe", "fen");
        Check.due("treeNodes()", fens.treeNodes(), 7);
        node(fens, "fen", 0, null);
        node(fens, "fan", 1, "fen");
        node(fens, "fens", 2, "fan");
        node(fens, "fin", 2, "fan");
        node(fens, "fans", 1, "fen");
        node(fens, "a", 1, "fen");
        node(fens, "fe", 3, "fens");
        Check.due("treeDepth(fa)", fens.treeDepth(Check.word("fa")), FuzzyFens.NONE);
        Check.due("treeParent(fa)", fens.treeParent(Check.word("fa")), FuzzyFens.NONE);
    }

    private static void forgottenWordsStay() {
        FuzzyFens fens = Check.knowing("fen", "fan", "fens");
        fens.forget(Check.word("fen"));
        fens.forget(Check.word("fan"));
        Check.due("treeNodes()", fens.treeNodes(), 3);
        node(fens, "fen", 0, null);
        node(fens, "fan", 1, "fen");
        node(fens, "fens", 2, "fan");
        Check.due("treeCompared(fen, 1)", fens.treeCompared(Check.word("fen"), 1), 2 + 1);
        fens.add(Check.word("fin"), 1);
        node(fens, "fin", 2, "fan");
        fens.add(Check.word("fan"), 2);
        node(fens, "fan", 1, "fen");
        Check.due("treeNodes()", fens.treeNodes(), 4);
    }

    private static void aSearchEntersTheChildrenInReach() {
        // The root has the children 1 to 4: bb, ccbb, ccc and cccc; ab is the child 3 of ccbb.
        FuzzyFens fens = Check.knowing("bbb", "bb", "ccbb", "ccc", "cccc", "ab");
        node(fens, "bb", 1, "bbb");
        node(fens, "ccbb", 1, "bbb");
        node(fens, "ccc", 1, "bbb");
        node(fens, "cccc", 1, "bbb");
        node(fens, "ab", 2, "ccbb");
        // From the root at the distance 0; from ccbb at 2 to its child 3, as soon as ccbb is compared.
        compared(fens, "bbb", 1, 2, 4, 5);
        // From the root at the distance 4: its child 4, then 3, then 2 with ab, then 1.
        compared(fens, "cccc", 2, 3, 5, 6);
        // From the root at the distance 2 to ccbb, from there at 3 to ab.
        compared(fens, "b", 3, 5, 6, 6);
        FuzzyFens root = Check.knowing("bbb");
        compared(root, "cccccccccc", 1, 1, 1, 1);
    }

    private static void theDeepestTree() {
        // Each word is at the distance 2 from each other one, so each is below the one before.
        FuzzyFens fens = new FuzzyFens();
        String before = null;
        for (int i = 0; i < 26; i++) {
            String word = "" + (char) ('a' + i) + (char) ('a' + i);
            fens.add(Check.word(word), 1);
            node(fens, word, i, before);
            before = word;
        }
        for (int i = 0; i < 14; i++) {
            String word = "" + (char) ('a' + i) + (char) ('a' + i + 1);
            fens.add(Check.word(word), 1);
        }
        Check.due("treeNodes()", fens.treeNodes(), 40);
        Check.due("treeCompared(zz, 0)", fens.treeCompared(Check.word("zz"), 0), 26);
        Check.due("treeCompared(zz, 3)", fens.treeCompared(Check.word("zz"), 3), 40);
    }

    private static void wrongInputs() {
        FuzzyFens fens = Check.knowing("fen");
        long fen = Check.word("fen");
        for (long number : Check.NO_WORDS) {
            Check.illegal("treeDepth(" + number + ")", () -> fens.treeDepth(number));
            Check.illegal("treeParent(" + number + ")", () -> fens.treeParent(number));
            Check.illegal("treeCompared(" + number + ", 1)", () -> fens.treeCompared(number, 1));
        }
        for (int bad : new int[] {-1, 4, Integer.MAX_VALUE, Integer.MIN_VALUE}) {
            Check.illegal("treeCompared(fen, " + bad + ")", () -> fens.treeCompared(fen, bad));
            Check.illegal("treeCompared on an empty tree", () -> new FuzzyFens().treeCompared(fen, bad));
        }
    }

    private static void node(FuzzyFens fens, String word, int depth, String parent) {
        Check.due("treeDepth(" + word + ")", fens.treeDepth(Check.word(word)), depth);
        long due = parent == null ? FuzzyFens.NONE : Check.word(parent);
        Check.due("treeParent(" + word + ")", fens.treeParent(Check.word(word)), due);
    }

    private static void compared(FuzzyFens fens, String typed, int... due) {
        for (int k = 0; k < due.length; k++) {
            Check.due("treeCompared(" + typed + ", " + k + ")", fens.treeCompared(Check.word(typed), k), due[k]);
        }
    }
}
