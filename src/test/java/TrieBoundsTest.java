import java.util.ArrayList;
import java.util.List;

/** The boundary cases of the terms on the trie and the automaton, and of promises 13 to 15: trieNodes, trieReached, rows. */
public final class TrieBoundsTest {
    private static final int WIDEST = 3;
    private static final int MOST_NODES = 387;
    private static final String TERMS = "Terms, Trie and automaton";
    private static final String WRONG = "Throws IllegalArgumentException if typed is no word, or k is out of range";

    public static void main(String[] args) {
        oneNodeWithoutWords();
        nodesOfWordsOfEachLength();
        nodesOfCommonBeginnings();
        numbersFromNoneToN();
        numbersOfTheEmptyBeginning();
        numbersAtMostKAndOne();
        theLeastK();
        reachedWithExactlyK();
        reachedByOneNumber();
        reachedWithOneLetterAndWithTen();
        theLargestTrie();
        nodesOfForgottenWords();
        reachedWithoutWords();
        reachedInTheLargestTrie();
        reachedForTheLeastKAndTheGreatest();
        trieReachedRefusesBadArguments();
        rowsWithoutWords();
        rowsInTheLargestTrie();
        manyDifferentRows();
        rowsForTheLeastKAndTheGreatest();
        rowsRefusesBadArguments();
        Check.finish();
    }

    private static void oneNodeWithoutWords() {
        Check.sentence(TERMS, "so one node, if no word is known");
        FuzzyFens fens = new FuzzyFens();
        Check.due("trieNodes()", fens.trieNodes(), 1);
        fens.add(Check.word("aaaaaaaaaa"), 1);
        fens.forget(Check.word("aaaaaaaaaa"));
        Check.due("trieNodes() after the only word was forgotten", fens.trieNodes(), 1);
    }

    private static void nodesOfWordsOfEachLength() {
        Check.sentence(TERMS,
            "The trie has a node for each beginning of a known word, the empty one and the word itself included");
        for (int length = 1; length <= Edges.MOST_LETTERS; length++) {
            Check.due("trieNodes() with " + length + " a", Check.knowing("a".repeat(length)).trieNodes(), length + 1);
            Check.due("trieNodes() with " + length + " z", Check.knowing("z".repeat(length)).trieNodes(), length + 1);
        }
    }

    private static void nodesOfCommonBeginnings() {
        Check.sentence(TERMS,
            "The trie has a node for each beginning of a known word, the empty one and the word itself included");
        FuzzyFens fens = Check.knowing("aaaaaaaaaa");
        for (int length = 1; length < Edges.MOST_LETTERS; length++) {
            fens.add(Check.word("a".repeat(length)), 1);
            Check.due("trieNodes() with " + length + " a, too", fens.trieNodes(), 11);
        }
        // The last letter alone is another one, then the first one.
        fens.add(Check.word("aaaaaaaaab"), 1);
        Check.due("trieNodes() with another last letter", fens.trieNodes(), 12);
        fens.add(Check.word("baaaaaaaaa"), 1);
        Check.due("trieNodes() with another first letter", fens.trieNodes(), 22);
        Check.due("trieNodes() with the same end", Check.knowing("ab", "b").trieNodes(), 4);
        // They stand between one another alphabetically.
        Check.due("trieNodes() with a word between", Check.knowing("abc", "ab", "abb", "abca").trieNodes(), 6);
    }

    private static void numbersFromNoneToN() {
        Check.sentence(TERMS, "For a typed word with n letters, the row of a node is a sequence of n + 1 numbers");
        // The rows of the longest beginnings are the same but for number n: 0 and 1.
        rows(Check.knowing("mmmmmmmmmz", "mmmmmmmmmx"), "mmmmmmmmmz", 11, 12, 12, 12);
        rows(Check.knowing("z", "x"), "z", 2, 3, 3, 3);
        rows(Check.knowing("b", "x"), "ab", 1, 3, 3, 3);
        // The rows of x and xa for a are 11 and 21: they are the same but for number 0.
        rows(Check.knowing("xa"), "a", 1, 3, 3, 3);
    }

    private static void numbersOfTheEmptyBeginning() {
        Check.sentence(TERMS, "number i is the distance of the node's beginning from the first i letters of the typed word");
        // The rows of nothing and b for ab are 012 and 111, for ba 012 and 101, for b 01 and 10.
        for (String typed : new String[] {"ab", "ba", "b", "bbbbbbbbbb"}) {
            rows(Check.knowing("b"), typed, typed.startsWith("b") ? 2 : 1, 2, 2, 2);
        }
        // The rows of nothing and x for abc are 0123 and 1123.
        rows(Check.knowing("x"), "abc", 1, 2, 2, 2);
    }

    private static void numbersAtMostKAndOne() {
        Check.sentence(TERMS, "but at most k + 1, where k is the greatest distance that is searched");
        for (int k = 1; k <= WIDEST; k++) {
            // The last numbers of the rows of the last letter and of x are k + 1 and k + 2, the others are the same.
            String typed = "abcde".substring(0, k + 2);
            FuzzyFens fens = Check.knowing(typed.substring(k + 1), "x");
            Check.due("trieReached(" + typed + ", " + k + ")", fens.trieReached(Check.word(typed), k), 3);
            Check.due("rows(" + typed + ", " + k + ")", fens.rows(Check.word(typed), k), 2);
            for (int wider = k + 1; wider <= WIDEST; wider++) {
                Check.due("rows(" + typed + ", " + wider + ")", fens.rows(Check.word(typed), wider), 3);
            }
        }
    }

    private static void theLeastK() {
        Check.sentence(TERMS, "A node is reached by the search, if some number of its row is at most k.");
        // A number 0 is the distance of a beginning of the typed word from itself alone.
        FuzzyFens full = Edges.full();
        for (int length = 1; length <= Edges.MOST_LETTERS; length++) {
            String typed = "a".repeat(length);
            Check.due("trieReached(" + typed + ", 0)", full.trieReached(Check.word(typed), 0), length + 1);
            Check.due("rows(" + typed + ", 0)", full.rows(Check.word(typed), 0), length + 1);
        }
        reached(full, "baaaaaaaaa", 1);
        reached(full, "azzzzzzzzz", 2);
    }

    private static void reachedWithExactlyK() {
        Check.sentence(TERMS, "A node is reached by the search, if some number of its row is at most k.");
        // The least number of the row of each beginning is the number of its letters.
        FuzzyFens fens = Check.knowing("aaaaaaaaaa");
        for (String typed : new String[] {"z", "zz", "zzzz", "zzzzzzzzzz"}) {
            reached(fens, typed, 1, 2, 3, 4);
        }
    }

    private static void reachedByOneNumber() {
        Check.sentence(TERMS, "A node is reached by the search, if some number of its row is at most k.");
        // The rows of x, xa, xab and xabx for ab are 112, 212, 321 and 432.
        reached(Check.knowing("xabx"), "ab", 1, 4, 5, 5);
        // The rows of the beginnings of xxxab for ab are 012, 112, 222, 333, 434 and 543.
        reached(Check.knowing("xxxab"), "ab", 1, 2, 3, 6);
    }

    private static void reachedWithOneLetterAndWithTen() {
        Check.sentence(TERMS, "A node is reached by the search, if some number of its row is at most k.");
        reached(Check.knowing("abcdefghij"), "abcdefghij", 11, 11, 11, 11);
        reached(Check.knowing("abcdefghij"), "a", 2, 3, 4, 5);
        reached(Check.knowing("abcdefghij"), "j", 1, 2, 3, 4);
        reached(Check.knowing("a"), "abcdefghij", 2, 2, 2, 2);
        reached(Check.knowing("j"), "abcdefghij", 1, 2, 2, 2);
        reached(Check.knowing("a"), "a", 2, 2, 2, 2);
    }

    private static void theLargestTrie() {
        Check.sentence("Promise 13", "Returns the number of nodes of the trie.");
        FuzzyFens fens = new FuzzyFens();
        int due = 1;
        for (String word : largest()) {
            fens.add(Check.word(word), 1);
            due += fens.words() <= 26 ? 10 : 9;
            Check.due("trieNodes() with " + word, fens.trieNodes(), due);
        }
        Check.due("trieNodes() with forty words", fens.trieNodes(), MOST_NODES);
        Check.badState("add(zz, 1)", () -> fens.add(Check.word("zz"), 1));
        Check.due("trieNodes() after a refused word", fens.trieNodes(), MOST_NODES);
        // Nine of the nodes of the last word are in no other one.
        fens.forget(Check.word(largest().get(39)));
        Check.due("trieNodes() without the last word", fens.trieNodes(), MOST_NODES - 9);
    }

    private static void nodesOfForgottenWords() {
        Check.sentence("Promise 13", "Returns the number of nodes of the trie.");
        FuzzyFens fens = Check.knowing("a", "aaaaaaaaaa", "aaaaab");
        Check.due("trieNodes()", fens.trieNodes(), 12);
        fens.forget(Check.word("a"));
        Check.due("trieNodes() without the shortest", fens.trieNodes(), 12);
        fens.forget(Check.word("aaaaaaaaaa"));
        Check.due("trieNodes() without the longest", fens.trieNodes(), 7);
        fens.add(Check.word("a"), 1);
        fens.forget(Check.word("aaaaab"));
        Check.due("trieNodes() with the shortest alone", fens.trieNodes(), 2);
        fens.forget(Check.word("a"));
        Check.due("trieNodes() without words", fens.trieNodes(), 1);
    }

    private static void reachedWithoutWords() {
        Check.sentence("Promise 14", "Returns how many nodes of the trie are reached.");
        FuzzyFens fens = new FuzzyFens();
        for (String word : Edges.words()) {
            reached(fens, word, 1, 1, 1, 1);
        }
        fens.add(Check.word("a"), 1);
        fens.forget(Check.word("a"));
        reached(fens, "a", 1, 1, 1, 1);
    }

    private static void reachedInTheLargestTrie() {
        Check.sentence("Promise 14", "Returns how many nodes of the trie are reached.");
        FuzzyFens fens = Check.knowing(largest().toArray(new String[0]));
        // With k = 1 the first letters, and 27 words with another letter than a at one place at most.
        reached(fens, "aaaaaaaaaa", 11, 1 + 26 + 27 * 9, MOST_NODES, MOST_NODES);
        fens.forget(Check.word("aaaaaaaaaa"));
        reached(fens, "aaaaaaaaaa", 2, 1 + 26 + 26 * 9, MOST_NODES - 9, MOST_NODES - 9);
    }

    private static void reachedForTheLeastKAndTheGreatest() {
        Check.sentence("Promise 14", "k: 0 to 3");
        FuzzyFens fens = Check.knowing("fen", "xyzfen");
        // The rows of the beginnings of xyzfen for fen are 1123, 2223, 3333, 4344, 5434 and 6543.
        reached(fens, "fen", 4, 5, 6, 10);
    }

    private static void trieReachedRefusesBadArguments() {
        Check.sentence("Promise 14", WRONG);
        for (FuzzyFens fens : List.of(new FuzzyFens(), Edges.full())) {
            for (long number : Edges.noWords()) {
                Check.illegal("trieReached(" + number + ", 0)", () -> fens.trieReached(number, 0));
            }
            for (int bad : Edges.outside(0, WIDEST)) {
                Check.illegal("trieReached(a, " + bad + ")", () -> fens.trieReached(1, bad));
            }
        }
    }

    private static void rowsWithoutWords() {
        Check.sentence("Promise 15", "Returns how many different rows the nodes that are reached have.");
        FuzzyFens fens = new FuzzyFens();
        for (String word : Edges.words()) {
            rows(fens, word, 1, 1, 1, 1);
        }
        fens.add(Check.word("a"), 1);
        fens.forget(Check.word("a"));
        rows(fens, "a", 1, 1, 1, 1);
    }

    private static void rowsInTheLargestTrie() {
        Check.sentence("Promise 15", "Returns how many different rows the nodes that are reached have.");
        FuzzyFens fens = Check.knowing(largest().toArray(new String[0]));
        // A row tells of a beginning how many letters it has, and how many of these, two at most, are not a.
        rows(fens, "aaaaaaaaaa", 11, 11 + 10, 11 + 10 + 9, 11 + 10 + 9);
        // The rows of nodes that are not reached do not count: of those for y, that has no letter of any word, just
        // the root's, and those of the first, the second and the third letters.
        fens.forget(Check.word("yaaaaaaaaa"));
        rows(fens, "yyyyyyyyyy", 1, 2, 3, 4);
        rows(fens, "y", 1, 2, 3, 4);
    }

    private static void manyDifferentRows() {
        Check.sentence("Promise 15", "Returns how many different rows the nodes that are reached have.");
        // Forty words in each of which two letters of the typed word have changed places.
        List<String> words = new ArrayList<>();
        for (int first = 0; first < Edges.MOST_LETTERS; first++) {
            for (int second = first + 1; second < Edges.MOST_LETTERS && words.size() < Edges.MOST_WORDS; second++) {
                char[] letters = "abcdefghij".toCharArray();
                letters[first] = (char) ('a' + second);
                letters[second] = (char) ('a' + first);
                words.add(new String(letters));
            }
        }
        FuzzyFens fens = Check.knowing(words.toArray(new String[0]));
        rows(fens, "abcdefghij", 7, 29, 67, 95);
        reached(fens, "abcdefghij", 7, 170, 321, 321);
    }

    private static void rowsForTheLeastKAndTheGreatest() {
        Check.sentence("Promise 15", "k: 0 to 3");
        FuzzyFens fens = Check.knowing("fen", "xyzfen");
        // The rows of the beginnings of fen for it are 0123, 1012, 2101 and 3210, those of xyzfen are told above.
        rows(fens, "fen", 4, 5, 6, 10);
    }

    private static void rowsRefusesBadArguments() {
        Check.sentence("Promise 15", WRONG);
        for (FuzzyFens fens : List.of(new FuzzyFens(), Edges.full())) {
            for (long number : Edges.noWords()) {
                Check.illegal("rows(" + number + ", 0)", () -> fens.rows(number, 0));
            }
            for (int bad : Edges.outside(0, WIDEST)) {
                Check.illegal("rows(a, " + bad + ")", () -> fens.rows(1, bad));
            }
        }
    }

    /** Forty words of ten letters that bring as many nodes as can be: all first letters, all second ones apart. */
    private static List<String> largest() {
        List<String> words = new ArrayList<>();
        for (int i = 0; i < Edges.MOST_WORDS; i++) {
            words.add("" + (char) ('a' + i % 26) + (char) ('a' + i / 26) + "aaaaaaaa");
        }
        return words;
    }

    private static void reached(FuzzyFens fens, String typed, int... due) {
        for (int i = 0; i < due.length; i++) {
            int k = i;
            Check.due("trieReached(" + typed + ", " + k + ")", () -> fens.trieReached(Check.word(typed), k), due[k]);
        }
    }

    private static void rows(FuzzyFens fens, String typed, int... due) {
        for (int i = 0; i < due.length; i++) {
            int k = i;
            Check.due("rows(" + typed + ", " + k + ")", () -> fens.rows(Check.word(typed), k), due[k]);
        }
    }
}
