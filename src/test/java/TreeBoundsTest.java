import java.util.ArrayList;
import java.util.List;

/** The boundary cases of the terms on the tree, and of promises 16 to 19: treeNodes, treeDepth, treeParent, treeCompared. */
public final class TreeBoundsTest {
    private static final int WIDEST = 3;
    private static final String TERMS = "Terms, Tree";
    private static final String NO_WORD = "Throws IllegalArgumentException if word is no word";

    public static void main(String[] args) {
        theRoot();
        nodesInTheOrderOfTheFirstAdding();
        childrenOfEachNumber();
        fromTheRootOn();
        aChildThatIsThere();
        nodesOfForgottenWordsStay();
        childrenOfForgottenWords();
        aSearchBeginsAtTheRoot();
        numbersFromDMinusKToDPlusK();
        numbersBelowTheRoot();
        nodesFromNoneToForty();
        nodesAfterARefusedWord();
        depthsFromNoneToThirtyNine();
        depthOfWordsThatWereNeverAdded();
        depthOfForgottenWords();
        treeDepthRefusesNoWords();
        parentsOfTheDeepestTree();
        parentOfTheRoot();
        parentOfWordsThatWereNeverAdded();
        parentOfSmallestAndLargestWords();
        treeParentRefusesNoWords();
        comparedWithoutWords();
        comparedWithTheRootAlone();
        comparedInTheDeepestTree();
        comparedWithForgottenWords();
        comparedForTheLeastKAndTheGreatest();
        treeComparedRefusesBadArguments();
        Check.finish();
    }

    private static void theRoot() {
        Check.sentence(TERMS, "The first word is the root.");
        for (String word : Edges.words()) {
            FuzzyFens fens = Check.knowing(word, "mmmmm");
            node(fens, word, 0, null);
            node(fens, "mmmmm", 1, word);
        }
    }

    private static void nodesInTheOrderOfTheFirstAdding() {
        Check.sentence(TERMS,
            "The tree has a node for each word that has ever been added, in the order in which they were added first.");
        // Neither a later adding nor a forgotten word changes the order: fan is added again ahead of fin.
        FuzzyFens fens = Check.knowing("fen", "fan", "fen", "fan");
        fens.forget(Check.word("fen"));
        fens.forget(Check.word("fan"));
        fens.add(Check.word("fin"), 1);
        fens.add(Check.word("fan"), 1);
        fens.add(Check.word("fen"), 1);
        node(fens, "fen", 0, null);
        node(fens, "fan", 1, "fen");
        node(fens, "fin", 2, "fan");
        Check.due("treeNodes()", fens.treeNodes(), 3);
        node(Check.knowing("fan", "fen"), "fen", 1, "fan");
    }

    private static void childrenOfEachNumber() {
        Check.sentence(TERMS, "then the word becomes that child");
        FuzzyFens fens = broadest();
        node(fens, "mmmmmmmmmm", 0, null);
        node(fens, "zzzzzzzzzz", 1, "mmmmmmmmmm");
        for (int length = 1; length < Edges.MOST_LETTERS; length++) {
            node(fens, "m".repeat(length), 1, "mmmmmmmmmm");
        }
        Check.due("treeNodes()", fens.treeNodes(), 11);
    }

    private static void fromTheRootOn() {
        Check.sentence(TERMS, "Each other one is put into the tree so: from the root on, with the distance d of the word from "
            + "the word of the node");
        // The root has a child 3, a child 1 and a child 2 then: fens does not go below fen, which is nearer to it.
        FuzzyFens fens = Check.knowing("fan", "zzz", "fen", "fens");
        node(fens, "zzz", 1, "fan");
        node(fens, "fen", 1, "fan");
        node(fens, "fens", 1, "fan");
        // At the distance 2 from fan, so below its child 2, though that is at the distance 4, and fen at 3.
        fens.add(Check.word("a"), 1);
        node(fens, "a", 2, "fens");
        fens.add(Check.word("zz"), 1);
        node(fens, "zz", 2, "zzz");
        // The distance is taken anew at each node: 2 from fan, 4 from fens, 1 from a.
        fens.add(Check.word("ax"), 1);
        node(fens, "ax", 3, "a");
    }

    private static void aChildThatIsThere() {
        Check.sentence(TERMS, "one goes on to the child with the number d, as long as there is one");
        FuzzyFens fens = broadest();
        // The smallest distance from the root, and the greatest one.
        fens.add(Check.word("mmmmmmmmmz"), 1);
        node(fens, "mmmmmmmmmz", 2, "mmmmmmmmm");
        fens.add(Check.word("yyyyyyyyyy"), 1);
        node(fens, "yyyyyyyyyy", 2, "zzzzzzzzzz");
        fens.add(Check.word("x"), 1);
        node(fens, "x", 3, "yyyyyyyyyy");
    }

    private static void nodesOfForgottenWordsStay() {
        Check.sentence(TERMS, "Nodes stay, also if their word is forgotten.");
        FuzzyFens fens = new FuzzyFens();
        List<String> words = equallyFar();
        for (String word : words.subList(0, Edges.MOST_WORDS)) {
            fens.add(Check.word(word), 1);
            fens.forget(Check.word(word));
        }
        Check.due("words()", fens.words(), 0);
        Check.due("treeNodes()", fens.treeNodes(), Edges.MOST_WORDS);
        for (int i = 0; i < Edges.MOST_WORDS; i++) {
            node(fens, words.get(i), i, i == 0 ? null : words.get(i - 1));
        }
        Check.due("treeCompared", fens.treeCompared(Check.word(words.get(40)), 0), Edges.MOST_WORDS);
    }

    private static void childrenOfForgottenWords() {
        Check.sentence(TERMS, "Nodes stay, also if their word is forgotten.");
        FuzzyFens fens = Check.knowing("fen");
        fens.forget(Check.word("fen"));
        fens.add(Check.word("fan"), 1);
        node(fens, "fen", 0, null);
        node(fens, "fan", 1, "fen");
        fens.forget(Check.word("fan"));
        fens.add(Check.word("fin"), 1);
        node(fens, "fin", 2, "fan");
    }

    private static void aSearchBeginsAtTheRoot() {
        Check.sentence(TERMS, "A search compares the typed word with the root");
        // The root is out of reach of the search, also as a forgotten word, and it is compared all the same.
        FuzzyFens fens = Check.knowing("mmmmmmmmmm", "mmmmmmmmm");
        for (int k = 0; k <= WIDEST; k++) {
            compared(fens, "zzzzzzzzzz", k, 1);
        }
        compared(fens, "mmmmmmmmm", 0, 2);
        fens.forget(Check.word("mmmmmmmmmm"));
        compared(fens, "zzzzzzzzzz", 0, 1);
        compared(fens, "mmmmmmmmm", 0, 2);
    }

    private static void numbersFromDMinusKToDPlusK() {
        Check.sentence(TERMS, "it goes on to all children with a number from d - k to d + k");
        FuzzyFens fens = broadest();
        for (int d = 0; d <= Edges.MOST_LETTERS; d++) {
            String typed = "m".repeat(Edges.MOST_LETTERS - d) + "y".repeat(d);
            for (int k = 0; k <= WIDEST; k++) {
                int children = Math.min(10, d + k) - Math.max(1, d - k) + 1;
                compared(fens, typed, k, 1 + children);
            }
        }
    }

    private static void numbersBelowTheRoot() {
        Check.sentence(TERMS, "from each word with which it is compared, with the distance d");
        // The word m is the only child of the root, its number is 10, and those of its own children are 1 to 10.
        FuzzyFens fens = Check.knowing("zzzzzzzzzz", "mmmmmmmmmm");
        for (int length = 1; length < Edges.MOST_LETTERS; length++) {
            fens.add(Check.word("m".repeat(length)), 1);
        }
        fens.add(Check.word("yyyyyyyyyy"), 1);
        node(fens, "yyyyyyyyyy", 2, "mmmmmmmmmm");
        for (int k = 0; k <= WIDEST; k++) {
            compared(fens, "mmmmmmmmmm", k, 2 + k);
            compared(fens, "mmmmm", k, 2 + 2 * k + 1);
            compared(fens, "yyyyyyyyyy", k, 2 + k + 1);
            // Three letters of the root: the child's number 10 is 3 more than the distance of 7.
            compared(fens, "zzz", k, k < 3 ? 1 : 2 + 4);
            compared(fens, "zzzz", k, 1);
        }
    }

    private static void nodesFromNoneToForty() {
        Check.sentence("Promise 16", "Returns the number of nodes of the tree.");
        FuzzyFens fens = new FuzzyFens();
        Check.due("treeNodes()", fens.treeNodes(), 0);
        int due = 0;
        for (String word : Edges.forty()) {
            fens.add(Check.word(word), 1);
            due++;
            Check.due("treeNodes()", fens.treeNodes(), due);
            fens.add(Check.word(word), 1000);
            Check.due("treeNodes() after " + word + " was added again", fens.treeNodes(), due);
            fens.forget(Check.word(word));
            Check.due("treeNodes() after it was forgotten", fens.treeNodes(), due);
        }
    }

    private static void nodesAfterARefusedWord() {
        Check.sentence("Promise 16", "Returns the number of nodes of the tree.");
        FuzzyFens fens = new FuzzyFens();
        Check.illegal("add(fen, 0)", () -> fens.add(Check.word("fen"), 0));
        Check.due("treeNodes()", fens.treeNodes(), 0);
        fens.add(Check.word("bog"), 1);
        node(fens, "bog", 0, null);
        FuzzyFens full = Edges.full();
        Check.badState("add(fen, 1)", () -> full.add(Check.word("fen"), 1));
        Check.due("treeNodes()", full.treeNodes(), Edges.MOST_WORDS);
    }

    private static void depthsFromNoneToThirtyNine() {
        Check.sentence("Promise 17", "Returns how many nodes are above that of a word in the tree");
        FuzzyFens fens = deepest();
        for (int i = 0; i < Edges.MOST_WORDS; i++) {
            long word = Check.word(equallyFar().get(i));
            Check.due("treeDepth of word " + i, () -> fens.treeDepth(word), i);
        }
    }

    private static void depthOfWordsThatWereNeverAdded() {
        Check.sentence("Promise 17", "NONE if the word has never been added");
        FuzzyFens fens = new FuzzyFens();
        for (String word : Edges.words()) {
            Check.due("treeDepth(" + word + ")", fens.treeDepth(Check.word(word)), FuzzyFens.NONE);
        }
        fens.add(Check.word("aaaaa"), 1);
        for (String word : new String[] {"a", "aaaa", "aaaaaa", "aaaab"}) {
            Check.due("treeDepth(" + word + ")", fens.treeDepth(Check.word(word)), FuzzyFens.NONE);
        }
        FuzzyFens full = deepest();
        long next = Check.word(equallyFar().get(Edges.MOST_WORDS));
        Check.badState("add of a 41st word", () -> full.add(next, 1));
        Check.due("treeDepth of a refused word", full.treeDepth(next), FuzzyFens.NONE);
    }

    private static void depthOfForgottenWords() {
        Check.sentence("Promise 17", "NONE if the word has never been added");
        FuzzyFens fens = Check.knowing("fen", "fan");
        fens.forget(Check.word("fen"));
        fens.forget(Check.word("fan"));
        Check.due("treeDepth(fen), which was forgotten", fens.treeDepth(Check.word("fen")), 0);
        Check.due("treeDepth(fan), which was forgotten", fens.treeDepth(Check.word("fan")), 1);
    }

    private static void treeDepthRefusesNoWords() {
        Check.sentence("Promise 17", NO_WORD);
        for (FuzzyFens fens : List.of(new FuzzyFens(), Edges.full())) {
            for (long number : Edges.noWords()) {
                Check.illegal("treeDepth(" + number + ")", () -> fens.treeDepth(number));
            }
        }
    }

    private static void parentsOfTheDeepestTree() {
        Check.sentence("Promise 18", "Returns the word of the parent of a word's node in the tree");
        FuzzyFens fens = deepest();
        List<String> words = equallyFar();
        for (int i = 1; i < Edges.MOST_WORDS; i++) {
            long word = Check.word(words.get(i));
            Check.due("treeParent of word " + i, () -> fens.treeParent(word), Check.word(words.get(i - 1)));
        }
    }

    private static void parentOfTheRoot() {
        Check.sentence("Promise 18", "NONE if the word is the root");
        for (String word : Edges.words()) {
            FuzzyFens fens = Check.knowing(word);
            Check.due("treeParent(" + word + ")", fens.treeParent(Check.word(word)), FuzzyFens.NONE);
            fens.forget(Check.word(word));
            Check.due("treeParent(" + word + "), which was forgotten", fens.treeParent(Check.word(word)), FuzzyFens.NONE);
        }
    }

    private static void parentOfWordsThatWereNeverAdded() {
        Check.sentence("Promise 18", "or has never been added");
        FuzzyFens fens = new FuzzyFens();
        for (String word : Edges.words()) {
            Check.due("treeParent(" + word + ")", fens.treeParent(Check.word(word)), FuzzyFens.NONE);
        }
        fens.add(Check.word("aaaaa"), 1);
        for (String word : new String[] {"a", "aaaa", "aaaaaa", "aaaab"}) {
            Check.due("treeParent(" + word + ")", fens.treeParent(Check.word(word)), FuzzyFens.NONE);
        }
        FuzzyFens full = deepest();
        long next = Check.word(equallyFar().get(Edges.MOST_WORDS));
        Check.badState("add of a 41st word", () -> full.add(next, 1));
        Check.due("treeParent of a refused word", full.treeParent(next), FuzzyFens.NONE);
    }

    private static void parentOfSmallestAndLargestWords() {
        Check.sentence("Promise 18", "Returns the word of the parent of a word's node in the tree");
        FuzzyFens fens = Check.knowing("a", "zzzzzzzzzz", "yyyyyyyyyy");
        Check.due("treeParent(zzzzzzzzzz)", fens.treeParent(Check.word("zzzzzzzzzz")), 1);
        Check.due("treeParent(yyyyyyyyyy)", fens.treeParent(Check.word("yyyyyyyyyy")), Check.word("zzzzzzzzzz"));
    }

    private static void treeParentRefusesNoWords() {
        Check.sentence("Promise 18", NO_WORD);
        for (FuzzyFens fens : List.of(new FuzzyFens(), Edges.full())) {
            for (long number : Edges.noWords()) {
                Check.illegal("treeParent(" + number + ")", () -> fens.treeParent(number));
            }
        }
    }

    private static void comparedWithoutWords() {
        Check.sentence("Promise 19", "0 if the tree is empty");
        FuzzyFens fens = new FuzzyFens();
        for (String word : Edges.words()) {
            for (int k = 0; k <= WIDEST; k++) {
                compared(fens, word, k, 0);
            }
        }
    }

    private static void comparedWithTheRootAlone() {
        Check.sentence("Promise 19", "Returns with how many words a search compares");
        FuzzyFens fens = Check.knowing("aaaaa");
        for (String word : Edges.words()) {
            for (int k = 0; k <= WIDEST; k++) {
                compared(fens, word, k, 1);
            }
        }
    }

    private static void comparedInTheDeepestTree() {
        Check.sentence("Promise 19", "Returns with how many words a search compares");
        FuzzyFens fens = deepest();
        List<String> words = equallyFar();
        for (int k = 0; k <= WIDEST; k++) {
            // The child's number is 7, so that a word's own node is the last one, and another word sees all.
            for (int i = 0; i < Edges.MOST_WORDS; i++) {
                compared(fens, words.get(i), k, i + 1);
            }
            compared(fens, words.get(Edges.MOST_WORDS), k, Edges.MOST_WORDS);
            compared(fens, words.get(48), k, Edges.MOST_WORDS);
            // Half of the root is at the distance 4 from it.
            compared(fens, words.get(0).substring(0, 4), k, k < 3 ? 1 : Edges.MOST_WORDS);
        }
    }

    private static void comparedWithForgottenWords() {
        Check.sentence("Promise 19", "Returns with how many words a search compares; 0 if the tree is empty.");
        FuzzyFens fens = broadest();
        compared(fens, "mmmmm", 1, 4);
        fens.forget(Check.word("mmmmmmmmmm"));
        fens.forget(Check.word("mmmmm"));
        compared(fens, "mmmmm", 1, 4);
        FuzzyFens one = Check.knowing("a");
        one.forget(Check.word("a"));
        compared(one, "a", 0, 1);
        compared(one, "zzzzzzzzzz", 3, 1);
    }

    private static void comparedForTheLeastKAndTheGreatest() {
        Check.sentence("Promise 19", "k: 0 to 3");
        FuzzyFens fens = broadest();
        compared(fens, "mmmmm", 0, 2);
        compared(fens, "mmmmm", 1, 4);
        compared(fens, "mmmmm", 2, 6);
        compared(fens, "mmmmm", 3, 8);
    }

    private static void treeComparedRefusesBadArguments() {
        Check.sentence("Promise 19", "Throws IllegalArgumentException if typed is no word, or k is out of range");
        for (FuzzyFens fens : List.of(new FuzzyFens(), Edges.full())) {
            for (long number : Edges.noWords()) {
                Check.illegal("treeCompared(" + number + ", 0)", () -> fens.treeCompared(number, 0));
            }
            for (int bad : Edges.outside(0, WIDEST)) {
                Check.illegal("treeCompared(a, " + bad + ")", () -> fens.treeCompared(1, bad));
            }
        }
    }

    /** A root with a child of each number from 1 to 10. */
    private static FuzzyFens broadest() {
        FuzzyFens fens = Check.knowing("mmmmmmmmmm", "zzzzzzzzzz");
        for (int length = 1; length < Edges.MOST_LETTERS; length++) {
            fens.add(Check.word("m".repeat(length)), 1);
        }
        return fens;
    }

    /** Each word below the one that was added before it. */
    private static FuzzyFens deepest() {
        return Check.knowing(equallyFar().subList(0, Edges.MOST_WORDS).toArray(new String[0]));
    }

    /**
     * Forty-nine words of eight letters, each at the distance 7 from each other one: the lines of the plane over
     * the numbers modulo 7, by their heights at 0 to 6 and, ahead of the last one, their slopes, so that any two
     * agree at one place. Three sets of letters take turns, so that nothing is won by inserting and deleting.
     */
    private static List<String> equallyFar() {
        List<String> words = new ArrayList<>();
        for (int slope = 0; slope < 7; slope++) {
            for (int start = 0; start < 7; start++) {
                StringBuilder word = new StringBuilder();
                for (int place = 0; place < 8; place++) {
                    int value = place == 6 ? slope : (start + slope * Math.min(place, 6)) % 7;
                    word.append((char) ('a' + place % 3 * 7 + value));
                }
                words.add(word.toString());
            }
        }
        return words;
    }

    private static void node(FuzzyFens fens, String word, int depth, String parent) {
        Check.due("treeDepth(" + word + ")", () -> fens.treeDepth(Check.word(word)), depth);
        long due = parent == null ? FuzzyFens.NONE : Check.word(parent);
        Check.due("treeParent(" + word + ")", () -> fens.treeParent(Check.word(word)), due);
    }

    private static void compared(FuzzyFens fens, String typed, int k, int due) {
        Check.due("treeCompared(" + typed + ", " + k + ")", () -> fens.treeCompared(Check.word(typed), k), due);
    }
}
