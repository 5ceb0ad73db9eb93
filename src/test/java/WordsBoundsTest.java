import java.util.ArrayList;
import java.util.Collections;
import java.util.List;

/** The boundary cases of the terms on words, and of promises 1 to 6: a new object, add, forget, words, count, wordAt. */
public final class WordsBoundsTest {
    private static final String NO_WORD = "Throws IllegalArgumentException if word is no word";

    public static void main(String[] args) {
        wordsOfEachLength();
        eachLetterAtEachPlace();
        otherNumbers();
        orderOfTheSmallestAndTheLargest();
        orderOfAWordThatAnotherOneBeginsWith();
        theLastCall();
        theConstant();
        aNewObject();
        aNewObjectBesideAFullOne();
        addAddsToOneWordAlone();
        addTakesOccurrencesInRange();
        addRefusesOccurrencesOutOfRange();
        addReturnsTheCount();
        addRefusesNoWords();
        addTakesTheFortiethWordAndNoOther();
        addCountsForgottenWordsAsAdded();
        addTakesAddedWordsInAFullObject();
        addTakesAsHighACountAsTheCallsReach();
        forgetMakesTheCountZero();
        forgetReturnsTheCount();
        forgetRefusesNoWords();
        forgetRefusesUnknownWords();
        wordsFromNoneToForty();
        wordsLeavesOutForgottenOnes();
        countOfKnownWords();
        countOfUnknownWords();
        countRefusesNoWords();
        wordAtEachPlace();
        wordAtTheFirstPlaceAndTheLast();
        wordAtNoPlaceOfAnEmptyObject();
        wordAtNoPlaceAfterTheLast();
        Check.finish();
    }

    private static void wordsOfEachLength() {
        Check.sentence("Terms", "A word has 1 to 10 letters from a to z.");
        FuzzyFens fens = new FuzzyFens();
        for (String word : Edges.words()) {
            Check.due("add(" + word + ", 1)", () -> fens.add(Check.word(word), 1), 1);
        }
        Check.due("words()", fens.words(), 20);
        Check.illegal("add of no letters", () -> fens.add(0, 1));
        Check.illegal("add of eleven letters", () -> fens.add(Check.word("aaaaaaaaaaa"), 1));
        Check.illegal("add of eleven letters", () -> fens.add(Check.word("zzzzzzzzzzz"), 1));
        Check.due("words()", fens.words(), 20);
    }

    private static void eachLetterAtEachPlace() {
        Check.sentence("Terms", "It is passed as a long: from 0, for each letter from the first one on, the number is "
            + "multiplied by 32, and the number of the letter is added, 1 for a to 26 for z.");
        for (int length = 1; length <= Edges.MOST_LETTERS; length++) {
            for (int place = 0; place < length; place++) {
                FuzzyFens fens = new FuzzyFens();
                for (char letter = 'a'; letter <= 'z'; letter++) {
                    String word = "m".repeat(place) + letter + "m".repeat(length - 1 - place);
                    Check.due("add(" + word + ", 1)", () -> fens.add(Check.word(word), 1), 1);
                    Check.due("wordAt(last)", fens.wordAt(fens.words() - 1), Check.word(word));
                }
                Check.due("words()", fens.words(), 26);
            }
        }
        FuzzyFens fens = new FuzzyFens();
        Check.due("add(1, 1)", () -> fens.add(1, 1), 1);
        Check.due("add(26, 1)", () -> fens.add(26, 1), 1);
        // The word aa, and the longest word of z alone.
        Check.due("add(33, 1)", () -> fens.add(33, 1), 1);
        Check.due("add(944303147674458, 1)", () -> fens.add(944303147674458L, 1), 1);
        Check.due("distance(1, 33)", fens.distance(1, 33), 1);
        Check.due("distance(26, 944303147674458)", fens.distance(26, 944303147674458L), 9);
    }

    private static void otherNumbers() {
        Check.sentence("Terms", "Other numbers are no words.");
        FuzzyFens fens = new FuzzyFens();
        for (long number : Edges.noWords()) {
            Check.illegal("count(" + number + ")", () -> fens.count(number));
        }
    }

    private static void orderOfTheSmallestAndTheLargest() {
        Check.sentence("Terms", "Words are ordered alphabetically");
        order("a", "aaaaaaaaaz", "aaaaaaaaz", "aaaaaaaaza", "azzzzzzzzz", "b", "baaaaaaaaa", "bz", "c", "y", "yzzzzzzzzz", "z");
        // A longer word has the larger number, but it may stand ahead.
        order("aaaaaaaaaa", "b");
        order("yzzzzzzzzz", "z");
        order("ab", "b", "ba");
        order("az", "ba");
    }

    private static void orderOfAWordThatAnotherOneBeginsWith() {
        Check.sentence("Terms", "a word that another one begins with comes before that");
        List<String> sorted = new ArrayList<>();
        for (int length = 1; length <= Edges.MOST_LETTERS; length++) {
            sorted.add("a".repeat(length));
        }
        for (int length = 1; length <= Edges.MOST_LETTERS; length++) {
            sorted.add("z".repeat(length));
        }
        order(sorted.toArray(new String[0]));
        order("fen", "fena", "fenz", "feo");
    }

    private static void theLastCall() {
        Check.sentence("What it is", "An object is used for at most 512 calls after it has been made");
        FuzzyFens fens = Edges.full();
        long typed = Check.word("aaz");
        for (int call = Edges.MOST_WORDS; call < Edges.MOST_CALLS - 6; call++) {
            Check.due("neighbourhood(aaz, 2) as call " + (call + 1), fens.neighbourhood(typed, 2), 5);
        }
        Check.illegal("add(aaz, 1001)", () -> fens.add(typed, 1001));
        Check.badState("add(aaz, 1)", () -> fens.add(typed, 1));
        Check.due("add(aa, 1000)", () -> fens.add(Check.word("aa"), 1000), 1001);
        Check.due("words()", fens.words(), Edges.MOST_WORDS);
        Check.due("forget(aa)", () -> fens.forget(Check.word("aa")), 1001);
        Check.due("words() as call 512", fens.words(), Edges.MOST_WORDS - 1);
    }

    private static void theConstant() {
        Check.sentence("Terms, Corrections", "The constants: NONE = -1: There is no such word.");
        Check.due("NONE", FuzzyFens.NONE, -1);
    }

    private static void aNewObject() {
        Check.sentence("Promise 1", "No words are known.");
        checkEmpty(new FuzzyFens());
    }

    private static void aNewObjectBesideAFullOne() {
        Check.sentence("Promise 1", "No words are known.");
        FuzzyFens full = Edges.full();
        FuzzyFens fens = new FuzzyFens();
        checkEmpty(fens);
        fens.add(Check.word("fen"), 7);
        Check.due("words() of the full one", full.words(), Edges.MOST_WORDS);
        Check.due("count(fen) of the full one", full.count(Check.word("fen")), 0);
        Check.due("words() of the new one", fens.words(), 1);
    }

    private static void checkEmpty(FuzzyFens fens) {
        Check.due("words()", fens.words(), 0);
        Check.noPlace("wordAt(0)", () -> fens.wordAt(0));
        Check.due("trieNodes()", fens.trieNodes(), 1);
        Check.due("treeNodes()", fens.treeNodes(), 0);
        for (String edge : Edges.words()) {
            long word = Check.word(edge);
            Check.due("count(" + edge + ")", fens.count(word), 0);
            Check.badState("forget(" + edge + ")", () -> fens.forget(word));
            Check.due("nearest(" + edge + ")", fens.nearest(word), FuzzyFens.NONE);
            Check.due("corrections(" + edge + ", 3)", fens.corrections(word, 3), 0);
            Check.due("candidates(" + edge + ", 2)", fens.candidates(word, 2), 0);
            Check.due("falseCandidates(" + edge + ", 2)", fens.falseCandidates(word, 2), 0);
            Check.due("treeDepth(" + edge + ")", fens.treeDepth(word), FuzzyFens.NONE);
        }
    }

    private static void addAddsToOneWordAlone() {
        Check.sentence("Promise 2", "Adds occurrences of a word.");
        FuzzyFens fens = new FuzzyFens();
        List<String> words = Edges.forty();
        for (int i = 0; i < Edges.MOST_WORDS; i++) {
            fens.add(Check.word(words.get(i)), 1 + i);
        }
        fens.add(Check.word(words.get(7)), 100);
        fens.add(Check.word(words.get(39)), 1000);
        for (int i = 0; i < Edges.MOST_WORDS; i++) {
            int due = 1 + i + (i == 7 ? 100 : 0) + (i == 39 ? 1000 : 0);
            Check.due("count(" + words.get(i) + ")", fens.count(Check.word(words.get(i))), due);
        }
        Check.due("words()", fens.words(), Edges.MOST_WORDS);
    }

    private static void addTakesOccurrencesInRange() {
        Check.sentence("Promise 2", "occurrences: 1 to 1000");
        FuzzyFens fens = new FuzzyFens();
        Check.due("add(fen, 1)", () -> fens.add(Check.word("fen"), 1), 1);
        Check.due("add(bog, 1000)", () -> fens.add(Check.word("bog"), 1000), 1000);
        Check.due("add(fen, 1000)", () -> fens.add(Check.word("fen"), 1000), 1001);
        Check.due("add(bog, 1)", () -> fens.add(Check.word("bog"), 1), 1001);
        Check.due("add(mud, 999)", () -> fens.add(Check.word("mud"), 999), 999);
        Check.due("words()", fens.words(), 3);
    }

    private static void addRefusesOccurrencesOutOfRange() {
        Check.sentence("Promise 2", "Throws IllegalArgumentException if word is no word, or occurrences is out of range");
        FuzzyFens fens = Check.knowing("fen");
        for (int bad : Edges.outside(1, Edges.MOST_OCCURRENCES)) {
            Check.illegal("add(fen, " + bad + ")", () -> fens.add(Check.word("fen"), bad));
            Check.illegal("add(bog, " + bad + ")", () -> fens.add(Check.word("bog"), bad));
        }
        Check.due("count(fen)", fens.count(Check.word("fen")), 1);
        Check.due("count(bog)", fens.count(Check.word("bog")), 0);
        Check.due("words()", fens.words(), 1);
        Check.due("treeNodes()", fens.treeNodes(), 1);
    }

    private static void addReturnsTheCount() {
        Check.sentence("Promise 2", "Returns its count then.");
        FuzzyFens fens = new FuzzyFens();
        long word = Check.word("a");
        int due = 0;
        for (int occurrences : new int[] {1, 1, 1000, 1000, 7, 999}) {
            due += occurrences;
            Check.due("add(a, " + occurrences + ")", fens.add(word, occurrences), due);
            Check.due("count(a)", fens.count(word), due);
        }
        Check.due("add(z, 1)", fens.add(Check.word("z"), 1), 1);
        fens.forget(word);
        Check.due("add(a, 1) after it was forgotten", fens.add(word, 1), 1);
        Check.due("add(a, 1000)", fens.add(word, 1000), 1001);
    }

    private static void addRefusesNoWords() {
        Check.sentence("Promise 2", "Throws IllegalArgumentException if word is no word, or occurrences is out of range");
        FuzzyFens fens = Check.knowing("fen");
        for (long number : Edges.noWords()) {
            Check.illegal("add(" + number + ", 1)", () -> fens.add(number, 1));
        }
        Check.due("words()", fens.words(), 1);
        Check.due("treeNodes()", fens.treeNodes(), 1);
        Check.due("trieNodes()", fens.trieNodes(), 4);
    }

    private static void addTakesTheFortiethWordAndNoOther() {
        Check.sentence("Promise 2", "Throws IllegalStateException if the word has never been added, and 40 words have been");
        FuzzyFens fens = new FuzzyFens();
        for (String word : Edges.forty()) {
            Check.due("add(" + word + ", 1)", () -> fens.add(Check.word(word), 1), 1);
        }
        for (String word : new String[] {"b", "fen", "aaaaaaaaab", "zzzzzzzzzy"}) {
            Check.badState("add(" + word + ", 1)", () -> fens.add(Check.word(word), 1));
            Check.badState("add(" + word + ", 1000)", () -> fens.add(Check.word(word), 1000));
            Check.due("count(" + word + ")", fens.count(Check.word(word)), 0);
            Check.due("treeDepth(" + word + ")", fens.treeDepth(Check.word(word)), FuzzyFens.NONE);
        }
        Check.due("words()", fens.words(), Edges.MOST_WORDS);
        Check.due("treeNodes()", fens.treeNodes(), Edges.MOST_WORDS);
    }

    private static void addCountsForgottenWordsAsAdded() {
        Check.sentence("Promise 2", "Throws IllegalStateException if the word has never been added, and 40 words have been");
        // Each word is forgotten before the next one is added, so that no more than one is ever known.
        FuzzyFens fens = new FuzzyFens();
        for (String word : Edges.forty()) {
            Check.due("add(" + word + ", 1)", () -> fens.add(Check.word(word), 1), 1);
            fens.forget(Check.word(word));
        }
        Check.due("words()", fens.words(), 0);
        Check.badState("add(fen, 1)", () -> fens.add(Check.word("fen"), 1));
        Check.due("words()", fens.words(), 0);
        for (String word : Edges.forty()) {
            Check.due("add(" + word + ", 2)", () -> fens.add(Check.word(word), 2), 2);
        }
        Check.due("words()", fens.words(), Edges.MOST_WORDS);
        Check.badState("add(fen, 1)", () -> fens.add(Check.word("fen"), 1));
    }

    private static void addTakesAddedWordsInAFullObject() {
        Check.sentence("Promise 2", "Throws IllegalStateException if the word has never been added, and 40 words have been");
        FuzzyFens fens = Edges.full();
        for (String word : Edges.forty()) {
            Check.due("add(" + word + ", 1000)", () -> fens.add(Check.word(word), 1000), 1001);
        }
        for (String word : Edges.words()) {
            fens.forget(Check.word(word));
            Check.badState("add(fen, 1)", () -> fens.add(Check.word("fen"), 1));
            Check.due("add(" + word + ", 3)", () -> fens.add(Check.word(word), 3), 3);
        }
        Check.due("words()", fens.words(), Edges.MOST_WORDS);
    }

    /** An object's 512 calls bring a count no further, so that no count of more than 1000000 can be asked for. */
    private static void addTakesAsHighACountAsTheCallsReach() {
        Check.sentence("Promise 2", "or its count would be more than 1000000");
        FuzzyFens fens = new FuzzyFens();
        for (int call = 1; call <= Edges.MOST_CALLS; call++) {
            int due = call * Edges.MOST_OCCURRENCES;
            Check.due("add(often, 1000) as call " + call, () -> fens.add(Check.word("often"), 1000), due);
        }
    }

    private static void forgetMakesTheCountZero() {
        Check.sentence("Promise 3", "Forgets a known word; its count is 0 then.");
        FuzzyFens fens = Edges.full();
        for (String word : Edges.forty()) {
            fens.forget(Check.word(word));
            Check.due("count(" + word + ")", fens.count(Check.word(word)), 0);
        }
        Check.due("words()", fens.words(), 0);
        Check.noPlace("wordAt(0)", () -> fens.wordAt(0));
        Check.due("trieNodes()", fens.trieNodes(), 1);
        Check.due("nearest(a)", fens.nearest(Check.word("a")), FuzzyFens.NONE);
        Check.due("corrections(a, 3)", fens.corrections(Check.word("a"), 3), 0);
        Check.due("candidates(a, 2)", fens.candidates(Check.word("a"), 2), 0);
    }

    private static void forgetReturnsTheCount() {
        Check.sentence("Promise 3", "Returns the count that it had.");
        FuzzyFens fens = Check.knowing("a", "z");
        fens.add(Check.word("z"), 1000);
        Check.due("forget(a)", () -> fens.forget(Check.word("a")), 1);
        Check.due("forget(z)", () -> fens.forget(Check.word("z")), 1001);
        fens.add(Check.word("a"), 2);
        Check.due("forget(a) again", () -> fens.forget(Check.word("a")), 2);
        FuzzyFens often = new FuzzyFens();
        for (int call = 1; call < Edges.MOST_CALLS; call++) {
            often.add(Check.word("often"), 1000);
        }
        Check.due("forget(often)", () -> often.forget(Check.word("often")), 511000);
    }

    private static void forgetRefusesNoWords() {
        Check.sentence("Promise 3", NO_WORD);
        FuzzyFens fens = Check.knowing("a");
        for (long number : Edges.noWords()) {
            Check.illegal("forget(" + number + ")", () -> fens.forget(number));
        }
        Check.due("words()", fens.words(), 1);
    }

    private static void forgetRefusesUnknownWords() {
        Check.sentence("Promise 3", "Throws IllegalStateException if it is not known");
        FuzzyFens fens = new FuzzyFens();
        Check.badState("forget(a) in an empty object", () -> fens.forget(Check.word("a")));
        fens.add(Check.word("aa"), 1);
        Check.badState("forget(a), which was never added", () -> fens.forget(Check.word("a")));
        Check.badState("forget(aaa), which was never added", () -> fens.forget(Check.word("aaa")));
        Check.due("forget(aa)", () -> fens.forget(Check.word("aa")), 1);
        Check.badState("forget(aa) again", () -> fens.forget(Check.word("aa")));
        fens.add(Check.word("aa"), 5);
        Check.due("forget(aa) after it was added again", () -> fens.forget(Check.word("aa")), 5);
        FuzzyFens full = Edges.full();
        Check.badState("forget(fen) in a full object", () -> full.forget(Check.word("fen")));
        Check.due("words()", full.words(), Edges.MOST_WORDS);
    }

    private static void wordsFromNoneToForty() {
        Check.sentence("Promise 4", "Returns the number of known words");
        FuzzyFens fens = new FuzzyFens();
        Check.due("words()", fens.words(), 0);
        int due = 0;
        for (String word : Edges.forty()) {
            fens.add(Check.word(word), 1000);
            due++;
            Check.due("words()", fens.words(), due);
            fens.add(Check.word(word), 1);
            Check.due("words() after " + word + " was added again", fens.words(), due);
        }
        Check.badState("add(fen, 1)", () -> fens.add(Check.word("fen"), 1));
        Check.due("words() after a refused word", fens.words(), Edges.MOST_WORDS);
    }

    private static void wordsLeavesOutForgottenOnes() {
        Check.sentence("Promise 4", "those whose count is above 0");
        FuzzyFens fens = Edges.full();
        int due = Edges.MOST_WORDS;
        for (String word : Edges.forty()) {
            fens.forget(Check.word(word));
            due--;
            Check.due("words() without " + word, fens.words(), due);
        }
        fens.add(Check.word("a"), 1);
        Check.due("words() with a count of 1", fens.words(), 1);
    }

    private static void countOfKnownWords() {
        Check.sentence("Promise 5", "Returns the count of a word");
        FuzzyFens fens = new FuzzyFens();
        int due = 0;
        for (String word : Edges.forty()) {
            due++;
            fens.add(Check.word(word), due == Edges.MOST_WORDS ? Edges.MOST_OCCURRENCES : due);
        }
        due = 0;
        for (String word : Edges.forty()) {
            due++;
            Check.due("count(" + word + ")", fens.count(Check.word(word)),
                due == Edges.MOST_WORDS ? Edges.MOST_OCCURRENCES : due);
        }
    }

    private static void countOfUnknownWords() {
        Check.sentence("Promise 5", "0 if it is not known");
        FuzzyFens fens = new FuzzyFens();
        for (String word : Edges.words()) {
            Check.due("count(" + word + ") in an empty object", fens.count(Check.word(word)), 0);
        }
        fens.add(Check.word("aaaaa"), 9);
        for (String word : new String[] {"a", "aaaa", "aaaaaa", "aaaaaaaaaa", "aaaab", "baaaa"}) {
            Check.due("count(" + word + "), which was never added", fens.count(Check.word(word)), 0);
        }
        fens.forget(Check.word("aaaaa"));
        Check.due("count(aaaaa), which was forgotten", fens.count(Check.word("aaaaa")), 0);
        Check.due("count(fen) in a full object", Edges.full().count(Check.word("fen")), 0);
    }

    private static void countRefusesNoWords() {
        Check.sentence("Promise 5", NO_WORD);
        FuzzyFens full = Edges.full();
        for (long number : Edges.noWords()) {
            Check.illegal("count(" + number + ")", () -> full.count(number));
        }
    }

    private static void wordAtEachPlace() {
        Check.sentence("Promise 6", "Returns the known word at a place in alphabetical order.");
        // Neither the counts nor the order of adding matter, and forgotten words have no place.
        List<String> words = Edges.forty();
        Collections.reverse(words);
        FuzzyFens fens = new FuzzyFens();
        for (String word : words) {
            fens.add(Check.word(word), 1 + fens.words() * 7 % 40);
        }
        for (int i = 0; i < Edges.MOST_WORDS; i += 3) {
            fens.forget(Check.word(words.get(i)));
        }
        List<String> sorted = new ArrayList<>();
        for (int i = 0; i < Edges.MOST_WORDS; i++) {
            if (i % 3 != 0) {
                sorted.add(words.get(i));
            }
        }
        Collections.sort(sorted);
        for (int place = 0; place < sorted.size(); place++) {
            int at = place;
            Check.due("wordAt(" + place + ")", () -> fens.wordAt(at), Check.word(sorted.get(place)));
        }
        Check.noPlace("wordAt(" + sorted.size() + ")", () -> fens.wordAt(sorted.size()));
    }

    private static void wordAtTheFirstPlaceAndTheLast() {
        Check.sentence("Promise 6", "place: 0 for the first one");
        FuzzyFens one = Check.knowing("m");
        Check.due("wordAt(0)", () -> one.wordAt(0), Check.word("m"));
        List<String> sorted = Edges.forty();
        Collections.sort(sorted);
        FuzzyFens full = Edges.full();
        for (int place = 0; place < Edges.MOST_WORDS; place++) {
            int at = place;
            Check.due("wordAt(" + place + ")", () -> full.wordAt(at), Check.word(sorted.get(place)));
        }
        Check.due("wordAt(0)", () -> full.wordAt(0), Check.word("a"));
        Check.due("wordAt(39)", () -> full.wordAt(39), Check.word("zzzzzzzzzz"));
        full.forget(Check.word("a"));
        Check.due("wordAt(0) without a", () -> full.wordAt(0), Check.word("aa"));
        Check.due("wordAt(38) without a", () -> full.wordAt(38), Check.word("zzzzzzzzzz"));
        full.forget(Check.word("zzzzzzzzzz"));
        Check.due("wordAt(37) without the last one", () -> full.wordAt(37), Check.word("zzzzzzzzz"));
    }

    private static void wordAtNoPlaceOfAnEmptyObject() {
        Check.sentence("Promise 6", "Throws IndexOutOfBoundsException if there is no such place");
        FuzzyFens fens = new FuzzyFens();
        checkNoPlaces(fens, 0);
        Check.noPlace("wordAt(0) in an empty object", () -> fens.wordAt(0));
        fens.add(Check.word("fen"), 1);
        fens.forget(Check.word("fen"));
        Check.noPlace("wordAt(0) after the only word was forgotten", () -> fens.wordAt(0));
    }

    private static void wordAtNoPlaceAfterTheLast() {
        Check.sentence("Promise 6", "Throws IndexOutOfBoundsException if there is no such place");
        checkNoPlaces(Check.knowing("fen"), 1);
        FuzzyFens full = Edges.full();
        checkNoPlaces(full, Edges.MOST_WORDS);
        full.forget(Check.word("zz"));
        checkNoPlaces(full, Edges.MOST_WORDS - 1);
        Check.due("wordAt(38)", () -> full.wordAt(38), Check.word("zzzzzzzzzz"));
        // The place of a word is no place of its own after that word, however many have been added.
        for (String word : Edges.words()) {
            if (full.count(Check.word(word)) > 0) {
                full.forget(Check.word(word));
            }
        }
        checkNoPlaces(full, 20);
        Check.due("words()", full.words(), 20);
    }

    private static void checkNoPlaces(FuzzyFens fens, int words) {
        for (int place : Edges.outside(0, words - 1)) {
            Check.noPlace("wordAt(" + place + ") of " + words, () -> fens.wordAt(place));
        }
        for (int place = words; place <= Edges.MOST_WORDS + 1; place++) {
            int at = place;
            Check.noPlace("wordAt(" + place + ") of " + words, () -> fens.wordAt(at));
        }
    }

    private static void order(String... sorted) {
        FuzzyFens rising = new FuzzyFens();
        FuzzyFens falling = new FuzzyFens();
        for (int i = 0; i < sorted.length; i++) {
            rising.add(Check.word(sorted[i]), 1);
            falling.add(Check.word(sorted[sorted.length - 1 - i]), 1);
        }
        for (int i = 0; i < sorted.length; i++) {
            Check.due("wordAt(" + i + ") of words added in order", rising.wordAt(i), Check.word(sorted[i]));
            Check.due("wordAt(" + i + ") of words added against it", falling.wordAt(i), Check.word(sorted[i]));
        }
    }
}
