/** Promises 20 to 22: neighbourhood, candidates, falseCandidates. */
public final class NeighbourhoodsTest {
    public static void main(String[] args) {
        neighbourhoods();
        candidates();
        forgottenWordsAreNoCandidates();
        wrongInputs();
        Check.finish();
    }

    private static void neighbourhoods() {
        FuzzyFens fens = new FuzzyFens();
        neighbourhood(fens, "a", 1, 2, 2);
        neighbourhood(fens, "z", 1, 2, 2);
        neighbourhood(fens, "aa", 1, 2, 3);
        neighbourhood(fens, "ab", 1, 3, 4);
        neighbourhood(fens, "abc", 1, 4, 7);
        neighbourhood(fens, "aba", 1, 4, 6);
        neighbourhood(fens, "aaaaaaaaaa", 1, 2, 3);
        neighbourhood(fens, "abcdefghij", 1, 11, 56);
        neighbourhood(fens, "zyxwvutsrq", 1, 11, 56);
        neighbourhood(fens, "ababababab", 1, 11, 1 + 10 + 37);
        neighbourhood(fens, "aabb", 1, 3, 6);
    }

    private static void candidates() {
        FuzzyFens none = new FuzzyFens();
        candidates(none, "fen", 0, 0, 0);
        falseCandidates(none, "fen", 0, 0, 0);
        FuzzyFens fens = Check.knowing("fen", "fens", "efn", "enf", "nfe", "nef", "a", "zzzzzzzzzz");
        // efn: fn is left of both; enf: en, or nothing but f; nfe: fe; nef: one letter alone.
        candidates(fens, "fen", 1, 5, 7 - 1);
        falseCandidates(fens, "fen", 0, 3, 0);
        // Both lose a letter, but not at the same place: the distance is 2.
        FuzzyFens ends = Check.knowing("abcdefghij");
        candidates(ends, "bcdefghijk", 0, 1, 1);
        falseCandidates(ends, "bcdefghijk", 0, 1, 0);
        candidates(ends, "cdefghijkl", 0, 0, 1);
        falseCandidates(ends, "cdefghijkl", 0, 0, 1);
        candidates(ends, "defghijklm", 0, 0, 0);
        // The words that are short enough have the empty sequence in common.
        FuzzyFens small = Check.knowing("a", "bc", "def");
        candidates(small, "z", 0, 1, 2);
        falseCandidates(small, "z", 0, 0, 0);
        candidates(small, "zy", 0, 0, 2);
        falseCandidates(small, "zy", 0, 0, 0);
        FuzzyFens turned = Check.knowing("abcd");
        candidates(turned, "cdab", 0, 0, 1);
        falseCandidates(turned, "cdab", 0, 0, 1);
        candidates(turned, "abcd", 1, 1, 1);
        falseCandidates(turned, "abcd", 0, 0, 0);
    }

    private static void forgottenWordsAreNoCandidates() {
        FuzzyFens fens = Check.knowing("fen", "efn");
        candidates(fens, "fen", 1, 2, 2);
        falseCandidates(fens, "fen", 0, 1, 0);
        fens.forget(Check.word("efn"));
        candidates(fens, "fen", 1, 1, 1);
        falseCandidates(fens, "fen", 0, 0, 0);
        fens.forget(Check.word("fen"));
        candidates(fens, "fen", 0, 0, 0);
        fens.add(Check.word("efn"), 1);
        falseCandidates(fens, "fen", 0, 1, 0);
    }

    private static void wrongInputs() {
        FuzzyFens fens = Check.knowing("fen");
        long fen = Check.word("fen");
        for (long number : Check.NO_WORDS) {
            Check.illegal("neighbourhood(" + number + ", 1)", () -> fens.neighbourhood(number, 1));
            Check.illegal("candidates(" + number + ", 1)", () -> fens.candidates(number, 1));
            Check.illegal("falseCandidates(" + number + ", 1)", () -> fens.falseCandidates(number, 1));
        }
        for (int bad : new int[] {-1, 3, 4, Integer.MAX_VALUE, Integer.MIN_VALUE}) {
            Check.illegal("neighbourhood(fen, " + bad + ")", () -> fens.neighbourhood(fen, bad));
            Check.illegal("candidates(fen, " + bad + ")", () -> fens.candidates(fen, bad));
            Check.illegal("falseCandidates(fen, " + bad + ")", () -> fens.falseCandidates(fen, bad));
        }
    }

    private static void neighbourhood(FuzzyFens fens, String word, int... due) {
        for (int k = 0; k < due.length; k++) {
            Check.due("neighbourhood(" + word + ", " + k + ")", fens.neighbourhood(Check.word(word), k), due[k]);
        }
    }

    private static void candidates(FuzzyFens fens, String typed, int... due) {
        for (int k = 0; k < due.length; k++) {
            Check.due("candidates(" + typed + ", " + k + ")", fens.candidates(Check.word(typed), k), due[k]);
        }
    }

    private static void falseCandidates(FuzzyFens fens, String typed, int... due) {
        for (int k = 0; k < due.length; k++) {
            Check.due("falseCandidates(" + typed + ", " + k + ")", fens.falseCandidates(Check.word(typed), k), due[k]);
        }
    }
}
