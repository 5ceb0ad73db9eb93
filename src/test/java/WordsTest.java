/** Promises 1 to 6: a new object, add, forget, words, count, wordAt. */
public final class WordsTest {
    private static final int MOST_WORDS = 40;

    public static void main(String[] args) {
        aNewObjectKnowsNothing();
        addCounts();
        addRefusesBadArguments();
        addRefusesTheWordAfterTheFortieth();
        forgetTakesTheWholeCount();
        wordsAndCountFollow();
        wordAtIsAlphabetical();
        throwingChangesNothing();
        objectsAreApart();
        Check.finish();
    }

    private static void aNewObjectKnowsNothing() {
        FuzzyFens fens = new FuzzyFens();
        Check.due("words()", fens.words(), 0);
        Check.due("count(a)", fens.count(Check.word("a")), 0);
        Check.due("treeNodes()", fens.treeNodes(), 0);
        Check.due("trieNodes()", fens.trieNodes(), 1);
        Check.due("nearest(a)", fens.nearest(Check.word("a")), FuzzyFens.NONE);
        Check.noPlace("wordAt(0)", () -> fens.wordAt(0));
    }

    private static void addCounts() {
        FuzzyFens fens = new FuzzyFens();
        Check.due("add(a, 1)", fens.add(Check.word("a"), 1), 1);
        Check.due("add(a, 1000)", fens.add(Check.word("a"), 1000), 1001);
        Check.due("add(zzzzzzzzzz, 1000)", fens.add(Check.word("zzzzzzzzzz"), 1000), 1000);
        Check.due("add(a, 7)", fens.add(Check.word("a"), 7), 1008);
        Check.due("words()", fens.words(), 2);
    }

    private static void addRefusesBadArguments() {
        FuzzyFens fens = new FuzzyFens();
        for (long number : Check.NO_WORDS) {
            Check.illegal("add(" + number + ", 1)", () -> fens.add(number, 1));
            Check.illegal("count(" + number + ")", () -> fens.count(number));
            Check.illegal("forget(" + number + ")", () -> fens.forget(number));
        }
        for (int bad : new int[] {0, -1, 1001, Integer.MAX_VALUE, Integer.MIN_VALUE}) {
            Check.illegal("add(a, " + bad + ")", () -> fens.add(Check.word("a"), bad));
        }
        for (String longest : Check.LONGEST) {
            Check.due("add(" + longest + ", 1)", fens.add(Check.word(longest), 1), 1);
        }
        Check.due("words()", fens.words(), Check.LONGEST.length);
    }

    private static void addRefusesTheWordAfterTheFortieth() {
        FuzzyFens fens = new FuzzyFens();
        for (int i = 0; i < MOST_WORDS; i++) {
            Check.due("add number " + i, fens.add(Check.word(Check.numbered(i * 17, 2)), 1), 1);
        }
        long another = Check.word("other");
        Check.badState("add of a 41st word", () -> fens.add(another, 1));
        Check.illegal("add of no word to a full object", () -> fens.add(27, 1));
        Check.illegal("add of no occurrences to a full object", () -> fens.add(another, 0));
        long third = Check.word(Check.numbered(2 * 17, 2));
        Check.due("add of a known word", fens.add(third, 4), 5);
        Check.due("forget", fens.forget(third), 5);
        Check.due("words()", fens.words(), MOST_WORDS - 1);
        Check.badState("add of a 41st word after a forgotten one", () -> fens.add(another, 1));
        Check.due("add of the forgotten word", fens.add(third, 2), 2);
        Check.due("words()", fens.words(), MOST_WORDS);
        Check.due("treeNodes()", fens.treeNodes(), MOST_WORDS);
        Check.due("count(other)", fens.count(another), 0);
    }

    private static void forgetTakesTheWholeCount() {
        FuzzyFens fens = Check.knowing("fen", "fens");
        fens.add(Check.word("fen"), 41);
        Check.badState("forget(fe)", () -> fens.forget(Check.word("fe")));
        Check.due("forget(fen)", fens.forget(Check.word("fen")), 42);
        Check.due("count(fen)", fens.count(Check.word("fen")), 0);
        Check.due("words()", fens.words(), 1);
        Check.badState("forget(fen) again", () -> fens.forget(Check.word("fen")));
        Check.due("add(fen, 3)", fens.add(Check.word("fen"), 3), 3);
        Check.due("words()", fens.words(), 2);
        Check.due("treeNodes()", fens.treeNodes(), 2);
        Check.due("forget(fens)", fens.forget(Check.word("fens")), 1);
    }

    private static void wordsAndCountFollow() {
        FuzzyFens fens = new FuzzyFens();
        String[] words = {"marsh", "mere", "reed", "sedge"};
        for (int i = 0; i < words.length; i++) {
            fens.add(Check.word(words[i]), i + 10);
            Check.due("words()", fens.words(), i + 1);
        }
        for (int i = 0; i < words.length; i++) {
            Check.due("count(" + words[i] + ")", fens.count(Check.word(words[i])), i + 10);
        }
        Check.due("count(mars)", fens.count(Check.word("mars")), 0);
        fens.add(Check.word("mere"), 5);
        Check.due("words()", fens.words(), 4);
        Check.due("count(mere)", fens.count(Check.word("mere")), 16);
        fens.forget(Check.word("marsh"));
        Check.due("words()", fens.words(), 3);
        Check.due("count(marsh)", fens.count(Check.word("marsh")), 0);
        Check.due("count(sedge)", fens.count(Check.word("sedge")), 13);
    }

    private static void wordAtIsAlphabetical() {
        String[] sorted = {"a", "aa", "aaaaaaaaaa", "aab", "ab", "azzzzzzzzz", "b", "ba", "m", "zz", "zzz", "zzzzzzzzzz"};
        FuzzyFens fens = new FuzzyFens();
        for (int i = 0; i < sorted.length; i++) {
            fens.add(Check.word(sorted[(i * 7 + 3) % sorted.length]), 1);
        }
        checkOrder(fens, sorted);
        fens.forget(Check.word("ab"));
        fens.forget(Check.word("a"));
        fens.forget(Check.word("zzzzzzzzzz"));
        checkOrder(fens, "aa", "aaaaaaaaaa", "aab", "azzzzzzzzz", "b", "ba", "m", "zz", "zzz");
        fens.add(Check.word("ab"), 1);
        checkOrder(fens, "aa", "aaaaaaaaaa", "aab", "ab", "azzzzzzzzz", "b", "ba", "m", "zz", "zzz");
    }

    private static void checkOrder(FuzzyFens fens, String... sorted) {
        for (int i = 0; i < sorted.length; i++) {
            Check.due("wordAt(" + i + ")", fens.wordAt(i), Check.word(sorted[i]));
        }
        for (int bad : new int[] {-1, sorted.length, 40, 41, Integer.MAX_VALUE, Integer.MIN_VALUE}) {
            Check.noPlace("wordAt(" + bad + ")", () -> fens.wordAt(bad));
        }
    }

    private static void throwingChangesNothing() {
        FuzzyFens fens = Check.knowing("bog", "peat");
        Check.illegal("add(bog, 0)", () -> fens.add(Check.word("bog"), 0));
        Check.illegal("add(bog, 1001)", () -> fens.add(Check.word("bog"), 1001));
        Check.illegal("add(mud, 1001)", () -> fens.add(Check.word("mud"), 1001));
        Check.badState("forget(mud)", () -> fens.forget(Check.word("mud")));
        Check.due("count(bog)", fens.count(Check.word("bog")), 1);
        Check.due("count(mud)", fens.count(Check.word("mud")), 0);
        Check.due("words()", fens.words(), 2);
        Check.due("treeNodes()", fens.treeNodes(), 2);
        Check.due("treeDepth(mud)", fens.treeDepth(Check.word("mud")), FuzzyFens.NONE);
        Check.due("trieNodes()", fens.trieNodes(), 8);
    }

    private static void objectsAreApart() {
        FuzzyFens one = Check.knowing("bog");
        FuzzyFens other = Check.knowing("fen", "mud");
        Check.due("words() of the one", one.words(), 1);
        Check.due("words() of the other", other.words(), 2);
        Check.due("count(bog) of the other", other.count(Check.word("bog")), 0);
    }
}
