/** What the document says ahead of the promises: what the class is, and that all ways of searching find the same words. */
public final class SearchesTest {
    private static final int WIDEST = 3;
    private static final int MOST_DELETED = 2;
    private static final String SAME = "All ways of searching find the same words";

    /** Words that are alike in several ways: by an end, a double, an exchange, a neighbour, by letters that move. */
    private static final String[] WORDS = {
        "f", "e", "fe", "fen", "efn", "nef", "fens", "fern", "den", "open", "fenny", "fennel", "aaaaaaaaaa", "aaaaaaaa",
        "abcdefghij", "bcdefghijk", "cdefghijab", "zzzzzzzzzz",
    };

    public static void main(String[] args) {
        aSpellingFinder();
        wordsAreCountedInAndForgotten();
        misspeltWordsAreLookedUp();
        for (String typed : WORDS) {
            for (String known : WORDS) {
                automatonFinds(typed, known);
                treeFinds(typed, known);
                neighbourhoodsFind(typed, known);
            }
        }
        eachWayTellsWhatItLooksAt();
        Check.finish();
    }

    private static void aSpellingFinder() {
        Check.sentence("What it is", "A spelling finder: known words with counts, searched by a Levenshtein automaton on a "
            + "trie, by a Burkhard-Keller tree, and by deletion neighbourhoods, and corrections that are ranked by keyboard "
            + "prices and counts.");
        FuzzyFens fens = new FuzzyFens();
        Check.due("add(reed, 3)", fens.add(Check.word("reed"), 3), 3);
        Check.due("add(reef, 5)", fens.add(Check.word("reef"), 5), 5);
        Check.due("add(reel, 9)", fens.add(Check.word("reel"), 9), 9);
        long typed = Check.word("reec");
        // The rows of reed, reef and reel are 43211, so all nodes are reached.
        Check.due("trieReached(reec, 1)", fens.trieReached(typed, 1), 1 + 3 + 3);
        // The root is at the distance 1, and so are its child reef and the child of that, reel.
        Check.due("treeCompared(reec, 1)", fens.treeCompared(typed, 1), 3);
        Check.due("candidates(reec, 1)", fens.candidates(typed, 1), 3);
        // The keys of d and f are beside that of c, the key of l is not.
        Check.due("correction(reec, 1, 0)", fens.correction(typed, 1, 0), Check.word("reef"));
        Check.due("correction(reec, 1, 1)", fens.correction(typed, 1, 1), Check.word("reed"));
        Check.due("correction(reec, 1, 2)", fens.correction(typed, 1, 2), Check.word("reel"));
    }

    private static void wordsAreCountedInAndForgotten() {
        Check.sentence("Terms", "Words are counted in and forgotten");
        FuzzyFens fens = new FuzzyFens();
        Check.due("add(fen, 2)", fens.add(Check.word("fen"), 2), 2);
        Check.due("add(fen, 3)", fens.add(Check.word("fen"), 3), 5);
        Check.due("words()", fens.words(), 1);
        Check.due("forget(fen)", fens.forget(Check.word("fen")), 5);
        Check.due("words()", fens.words(), 0);
    }

    private static void misspeltWordsAreLookedUp() {
        Check.sentence("Terms", "misspelt words are looked up");
        FuzzyFens fens = Check.knowing("fen", "marsh");
        for (String typed : new String[] {"fen", "fne", "fe", "fenn", "gen"}) {
            Check.due("correction(" + typed + ", 2, 0)", () -> fens.correction(Check.word(typed), 2, 0), Check.word("fen"));
            Check.due("count(fen)", fens.count(Check.word("fen")), 1);
        }
        Check.due("words()", fens.words(), 2);
    }

    /** Each letter on the way to a word that is found is reached. */
    private static void automatonFinds(String typed, String known) {
        Check.sentence("Terms", SAME);
        FuzzyFens fens = Check.knowing(known);
        for (int k = 0; k <= WIDEST; k++) {
            boolean isFound = fens.corrections(Check.word(typed), k) == 1;
            boolean isNear = fens.distance(Check.word(known), Check.word(typed)) <= k;
            Check.due("corrections(" + typed + ", " + k + ") with " + known, isFound, isNear);
            Check.due("nearest(" + typed + ") with " + known, fens.nearest(Check.word(typed)) <= k, isNear);
            boolean isReached = fens.trieReached(Check.word(typed), k) == fens.trieNodes();
            Check.due("trieReached(" + typed + ", " + k + ") with " + known, isReached || !isNear, true);
        }
    }

    /** The word that was added last has no child, so the search compares with one word more if it comes to it. */
    private static void treeFinds(String typed, String known) {
        Check.sentence("Terms", SAME);
        FuzzyFens fens = new FuzzyFens();
        for (String word : WORDS) {
            if (!word.equals(known)) {
                fens.add(Check.word(word), 1);
            }
        }
        int[] before = new int[WIDEST + 1];
        for (int k = 0; k <= WIDEST; k++) {
            before[k] = fens.treeCompared(Check.word(typed), k);
        }
        fens.add(Check.word(known), 1);
        for (int k = 0; k <= WIDEST; k++) {
            int more = fens.treeCompared(Check.word(typed), k) - before[k];
            boolean isNear = fens.distance(Check.word(known), Check.word(typed)) <= k;
            Check.due("treeCompared(" + typed + ", " + k + ") with " + known, more == 1 || !isNear && more == 0, true);
        }
    }

    /** Words that are no corrections may be candidates, but no correction is left out. */
    private static void neighbourhoodsFind(String typed, String known) {
        Check.sentence("Terms", SAME);
        FuzzyFens fens = Check.knowing(known);
        for (int k = 0; k <= MOST_DELETED; k++) {
            int candidates = fens.candidates(Check.word(typed), k);
            int falseOnes = fens.falseCandidates(Check.word(typed), k);
            Check.due("candidates(" + typed + ", " + k + ") with " + known + " but the false ones",
                candidates - falseOnes, fens.corrections(Check.word(typed), k));
        }
    }

    private static void eachWayTellsWhatItLooksAt() {
        Check.sentence("Terms", "what each of them looks at can be asked, too");
        FuzzyFens fens = Check.knowing("bcde", "abcd", "bcd", "xyz");
        fens.forget(Check.word("bcd"));
        long typed = Check.word("cdef");
        // The distance of bcde is 2, that of the others more.
        Check.due("corrections(cdef, 1)", fens.corrections(typed, 1), 0);
        Check.due("corrections(cdef, 2)", fens.corrections(typed, 2), 1);
        // A number of 1 at most have the empty beginning, a, b, x, bc, bcd and bcde; 2 all others but xyz.
        Check.due("trieReached(cdef, 1)", fens.trieReached(typed, 1), 7);
        Check.due("trieReached(cdef, 2)", fens.trieReached(typed, 2), 11);
        // From the root bcde at the distance 2 on to bcd, its child 1, and abcd, its child 2; xyz is its child 4.
        Check.due("treeCompared(cdef, 1)", fens.treeCompared(typed, 1), 3);
        Check.due("treeCompared(cdef, 2)", fens.treeCompared(typed, 2), 4);
        // It has cde in common with bcde, and cd with abcd.
        Check.due("candidates(cdef, 1)", fens.candidates(typed, 1), 1);
        Check.due("falseCandidates(cdef, 1)", fens.falseCandidates(typed, 1), 1);
        Check.due("candidates(cdef, 2)", fens.candidates(typed, 2), 2);
        Check.due("falseCandidates(cdef, 2)", fens.falseCandidates(typed, 2), 1);
    }
}
