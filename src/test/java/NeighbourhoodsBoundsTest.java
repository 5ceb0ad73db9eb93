import java.util.ArrayList;
import java.util.List;

/** The boundary cases of the terms on deletion neighbourhoods, and of promises 20 to 22. */
public final class NeighbourhoodsBoundsTest {
    private static final int MOST_DELETED = 2;
    private static final String TERMS = "Terms, Deletion neighbourhoods";
    private static final String SEQUENCES = "The neighbourhood of a word for k is the set of all sequences of letters, the "
        + "empty one and the word itself possibly among them, that are left of it if at most k letters are deleted.";
    private static final String COMMON =
        "The candidates are the known words whose neighbourhood has a sequence in common with that of the typed word.";
    private static final String WRONG = "Throws IllegalArgumentException if typed is no word, or k is out of range";

    public static void main(String[] args) {
        theWordItself();
        theEmptySequence();
        sequencesAreNotCountedTwice();
        sequencesOfWordsOfEachLength();
        theEmptySequenceInCommon();
        lengthsThatAreApart();
        lettersThatAreDeletedOnBothSides();
        theSameWordAlone();
        sequencesForTheLeastKAndTheGreatest();
        sequencesOfKnownAndUnknownWords();
        neighbourhoodRefusesBadArguments();
        candidatesFromNoneToForty();
        candidatesWithoutWords();
        candidatesAreKnown();
        candidatesForTheLeastKAndTheGreatest();
        candidatesRefusesBadArguments();
        falseCandidatesFromNoneToForty();
        falseCandidatesWithoutWords();
        falseCandidatesAtTheDistanceK();
        falseCandidatesForTheLeastKAndTheGreatest();
        falseCandidatesRefusesBadArguments();
        Check.finish();
    }

    private static void theWordItself() {
        Check.sentence(TERMS, SEQUENCES);
        FuzzyFens fens = new FuzzyFens();
        for (String word : Edges.words()) {
            sequences(fens, word, 1);
        }
        sequences(fens, "abcdefghij", 1);
    }

    private static void theEmptySequence() {
        Check.sentence(TERMS, SEQUENCES);
        FuzzyFens fens = new FuzzyFens();
        // It is left of one letter, and of two; of three letters at least one is left.
        for (char letter = 'a'; letter <= 'z'; letter++) {
            sequences(fens, "" + letter, 1, 2, 2);
        }
        sequences(fens, "aa", 1, 2, 3);
        sequences(fens, "az", 1, 3, 4);
        sequences(fens, "aaa", 1, 2, 3);
        sequences(fens, "abc", 1, 4, 7);
    }

    private static void sequencesAreNotCountedTwice() {
        Check.sentence(TERMS, SEQUENCES);
        FuzzyFens fens = new FuzzyFens();
        sequences(fens, "aab", 1, 3, 5);
        sequences(fens, "aba", 1, 4, 6);
        sequences(fens, "abab", 1, 5, 9);
        sequences(fens, "aaaaazzzzz", 1, 3, 6);
        sequences(fens, "zzzzzzzzza", 1, 3, 5);
        sequences(fens, "azzzzzzzzz", 1, 3, 5);
    }

    private static void sequencesOfWordsOfEachLength() {
        Check.sentence("Promise 20", "Returns how many sequences the neighbourhood of a word has.");
        FuzzyFens fens = new FuzzyFens();
        for (int n = 1; n <= Edges.MOST_LETTERS; n++) {
            sequences(fens, "abcdefghij".substring(0, n), 1, 1 + n, 1 + n + n * (n - 1) / 2);
            sequences(fens, "zyxwvutsrq".substring(0, n), 1, 1 + n, 1 + n + n * (n - 1) / 2);
            sequences(fens, "a".repeat(n), 1, 2, n == 1 ? 2 : 3);
            sequences(fens, "z".repeat(n), 1, 2, n == 1 ? 2 : 3);
        }
    }

    private static void theEmptySequenceInCommon() {
        Check.sentence(TERMS, COMMON);
        FuzzyFens fens = Check.knowing("a", "bc", "def", "ghij");
        candidates(fens, "z", 0, 1, 2);
        candidates(fens, "zy", 0, 0, 2);
        candidates(fens, "zyx", 0, 0, 0);
        candidates(fens, "zyxwvutsrq", 0, 0, 0);
        // With a letter in common the empty sequence is not needed.
        candidates(Check.knowing("abz"), "z", 0, 0, 1);
        candidates(Check.knowing("abcz"), "z", 0, 0, 0);
        candidates(Check.knowing("abz"), "zxy", 0, 0, 1);
    }

    private static void lengthsThatAreApart() {
        Check.sentence(TERMS, COMMON);
        FuzzyFens fens = new FuzzyFens();
        for (int length = 1; length <= Edges.MOST_LETTERS; length++) {
            fens.add(Check.word("m".repeat(length)), 1);
        }
        for (int length = 1; length <= Edges.MOST_LETTERS; length++) {
            String typed = "m".repeat(length);
            int below = length - 1;
            int above = Edges.MOST_LETTERS - length;
            candidates(fens, typed, 1, 1 + Math.min(1, below) + Math.min(1, above),
                1 + Math.min(2, below) + Math.min(2, above));
        }
    }

    private static void lettersThatAreDeletedOnBothSides() {
        Check.sentence(TERMS, COMMON);
        FuzzyFens fens = Check.knowing("abcdefghij");
        candidates(fens, "abcdefghij", 1, 1, 1);
        candidates(fens, "bcdefghijz", 0, 1, 1);
        candidates(fens, "abcdefghiz", 0, 1, 1);
        candidates(fens, "cdefghijzz", 0, 0, 1);
        candidates(fens, "zbcdefghiz", 0, 0, 1);
        candidates(fens, "defghijzzz", 0, 0, 0);
        candidates(fens, "zbcdzfghiz", 0, 0, 0);
        candidates(fens, "cdefghij", 0, 0, 1);
        candidates(fens, "bcdefghij", 0, 1, 1);
        candidates(fens, "zcdefghij", 0, 0, 1);
        candidates(fens, "zdefghij", 0, 0, 0);
        // The typed word is the longer one.
        candidates(Check.knowing("cdefghij"), "abcdefghij", 0, 0, 1);
        candidates(Check.knowing("defghij"), "abcdefghij", 0, 0, 0);
    }

    private static void theSameWordAlone() {
        Check.sentence(TERMS, COMMON);
        FuzzyFens full = Edges.full();
        for (String word : Edges.words()) {
            candidates(full, word, 1);
        }
        candidates(full, "fen", 0);
        candidates(full, "aaaaaaaaab", 0);
    }

    private static void sequencesForTheLeastKAndTheGreatest() {
        Check.sentence("Promise 20", "k: 0 to 2");
        FuzzyFens fens = new FuzzyFens();
        sequences(fens, "fens", 1, 5, 11);
    }

    private static void sequencesOfKnownAndUnknownWords() {
        Check.sentence("Promise 20", "Returns how many sequences the neighbourhood of a word has.");
        FuzzyFens fens = new FuzzyFens();
        sequences(fens, "fen", 1, 4, 7);
        fens.add(Check.word("fen"), 1);
        sequences(fens, "fen", 1, 4, 7);
        fens.forget(Check.word("fen"));
        sequences(fens, "fen", 1, 4, 7);
        sequences(Edges.full(), "fen", 1, 4, 7);
        sequences(Edges.full(), "aaaaaaaaaa", 1, 2, 3);
    }

    private static void neighbourhoodRefusesBadArguments() {
        Check.sentence("Promise 20", "Throws IllegalArgumentException if word is no word, or k is out of range");
        for (FuzzyFens fens : List.of(new FuzzyFens(), Edges.full())) {
            for (long number : Edges.noWords()) {
                Check.illegal("neighbourhood(" + number + ", 0)", () -> fens.neighbourhood(number, 0));
            }
            for (int bad : Edges.outside(0, MOST_DELETED)) {
                Check.illegal("neighbourhood(a, " + bad + ")", () -> fens.neighbourhood(1, bad));
            }
        }
    }

    private static void candidatesFromNoneToForty() {
        Check.sentence("Promise 21", "Returns the number of candidates.");
        FuzzyFens fens = new FuzzyFens();
        int due = 0;
        candidates(fens, "abcdefghij", 0, 0, 0);
        for (String word : fortyWithTwoLettersMoved()) {
            fens.add(Check.word(word), 1);
            due++;
            candidates(fens, "abcdefghij", 0, 0, due);
        }
        candidates(fens, "abcdefghij", 0, 0, Edges.MOST_WORDS);
    }

    private static void candidatesWithoutWords() {
        Check.sentence("Promise 21", "Returns the number of candidates.");
        FuzzyFens fens = new FuzzyFens();
        for (String word : Edges.words()) {
            candidates(fens, word, 0, 0, 0);
        }
    }

    private static void candidatesAreKnown() {
        Check.sentence("Promise 21", "Returns the number of candidates.");
        FuzzyFens fens = Check.knowing("a", "z");
        candidates(fens, "a", 1, 2, 2);
        fens.forget(Check.word("a"));
        candidates(fens, "a", 0, 1, 1);
        fens.forget(Check.word("z"));
        candidates(fens, "a", 0, 0, 0);
        fens.add(Check.word("a"), 1);
        candidates(fens, "a", 1, 1, 1);
    }

    private static void candidatesForTheLeastKAndTheGreatest() {
        Check.sentence("Promise 21", "k: 0 to 2");
        candidates(Check.knowing("fen", "fens", "fenny", "fences"), "fen", 1, 2, 3);
    }

    private static void candidatesRefusesBadArguments() {
        Check.sentence("Promise 21", WRONG);
        for (FuzzyFens fens : List.of(new FuzzyFens(), Edges.full())) {
            for (long number : Edges.noWords()) {
                Check.illegal("candidates(" + number + ", 0)", () -> fens.candidates(number, 0));
            }
            for (int bad : Edges.outside(0, MOST_DELETED)) {
                Check.illegal("candidates(a, " + bad + ")", () -> fens.candidates(1, bad));
            }
        }
    }

    private static void falseCandidatesFromNoneToForty() {
        Check.sentence("Promise 22", "Returns how many candidates are no corrections for the same k.");
        FuzzyFens fens = new FuzzyFens();
        int due = 0;
        for (String word : fortyWithTwoLettersMoved()) {
            fens.add(Check.word(word), 1);
            due++;
            falseCandidates(fens, "abcdefghij", 0, 0, due);
        }
        falseCandidates(fens, "abcdefghij", 0, 0, Edges.MOST_WORDS);
        // They are as many candidates of one of them, but all of these are corrections.
        Check.due("candidates(cdefghijkk, 2)", fens.candidates(Check.word("cdefghijkk"), 2), Edges.MOST_WORDS);
        falseCandidates(fens, "cdefghijkk", 0, 0, 0);
        fens.forget(Check.word("cdefghijkk"));
        falseCandidates(fens, "abcdefghij", 0, 0, Edges.MOST_WORDS - 1);
    }

    private static void falseCandidatesWithoutWords() {
        Check.sentence("Promise 22", "Returns how many candidates are no corrections for the same k.");
        FuzzyFens fens = new FuzzyFens();
        for (String word : Edges.words()) {
            falseCandidates(fens, word, 0, 0, 0);
        }
        fens.add(Check.word("ab"), 1);
        falseCandidates(fens, "ba", 0, 1, 0);
        fens.forget(Check.word("ab"));
        falseCandidates(fens, "ba", 0, 0, 0);
    }

    private static void falseCandidatesAtTheDistanceK() {
        Check.sentence("Promise 22", "Returns how many candidates are no corrections for the same k.");
        // With the distances 1 and 2, that are in reach of k = 1 and just not, and 2, 3 and 4 for k = 2.
        falseCandidates(Check.knowing("abcd"), "abcx", 0, 0, 0);
        falseCandidates(Check.knowing("abcd"), "bcdx", 0, 1, 0);
        falseCandidates(Check.knowing("abcd"), "abxy", 0, 0, 0);
        falseCandidates(Check.knowing("abcd"), "bxdy", 0, 0, 1);
        falseCandidates(Check.knowing("abcd"), "cdxy", 0, 0, 1);
        // No candidates at all, and those whose neighbourhoods have the empty sequence in common.
        falseCandidates(Check.knowing("abcd"), "dxyz", 0, 0, 0);
        falseCandidates(Check.knowing("a", "bc", "def"), "z", 0, 0, 0);
        falseCandidates(Check.knowing("a", "bc", "def"), "zy", 0, 0, 0);
        falseCandidates(Check.knowing("abz"), "zxy", 0, 0, 1);
    }

    private static void falseCandidatesForTheLeastKAndTheGreatest() {
        Check.sentence("Promise 22", "k: 0 to 2");
        FuzzyFens fens = Check.knowing("ab", "abcd", "efgh");
        falseCandidates(fens, "ba", 0, 1, 0);
        falseCandidates(fens, "cdab", 0, 0, 1);
        // A word is a candidate for k = 0 only if it is the typed one, and then it is a correction.
        falseCandidates(fens, "abcd", 0, 0, 0);
    }

    private static void falseCandidatesRefusesBadArguments() {
        Check.sentence("Promise 22", WRONG);
        for (FuzzyFens fens : List.of(new FuzzyFens(), Edges.full())) {
            for (long number : Edges.noWords()) {
                Check.illegal("falseCandidates(" + number + ", 0)", () -> fens.falseCandidates(number, 0));
            }
            for (int bad : Edges.outside(0, MOST_DELETED)) {
                Check.illegal("falseCandidates(a, " + bad + ")", () -> fens.falseCandidates(1, bad));
            }
        }
    }

    /** Words that begin like the end of abcdefghij and have two other letters behind: at the distance 4 from it. */
    private static List<String> fortyWithTwoLettersMoved() {
        List<String> words = new ArrayList<>();
        for (int i = 0; i < Edges.MOST_WORDS; i++) {
            words.add("cdefghij" + (char) ('k' + i / 7) + (char) ('k' + i % 7));
        }
        return words;
    }

    private static void sequences(FuzzyFens fens, String word, int... due) {
        for (int i = 0; i < due.length; i++) {
            int k = i;
            Check.due("neighbourhood(" + word + ", " + k + ")", () -> fens.neighbourhood(Check.word(word), k), due[k]);
        }
    }

    private static void candidates(FuzzyFens fens, String typed, int... due) {
        for (int i = 0; i < due.length; i++) {
            int k = i;
            Check.due("candidates(" + typed + ", " + k + ")", () -> fens.candidates(Check.word(typed), k), due[k]);
        }
    }

    private static void falseCandidates(FuzzyFens fens, String typed, int... due) {
        for (int i = 0; i < due.length; i++) {
            int k = i;
            Check.due("falseCandidates(" + typed + ", " + k + ")",
                () -> fens.falseCandidates(Check.word(typed), k), due[k]);
        }
    }
}
