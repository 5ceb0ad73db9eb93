import java.util.List;

/** The boundary cases of the terms on distances and prices, and of promises 7 to 9: distance, price, areNeighbours. */
public final class DistancesBoundsTest {
    private static final String DISTANCE = "The distance of two words, or beginnings of words, also empty ones, is the least "
        + "number of letters that are inserted, deleted or replaced by another one to turn one of them into the other one "
        + "(Levenshtein).";
    private static final String STEPS = "where the letters of both are gone through from left to right "
        + "and each letter takes part in one step at most";
    private static final String DELETED = "a letter deleted: 1, if it is the same as the letter directly to the left of it "
        + "in the typed word, whatever becomes of that one, otherwise 2";
    private static final String EXCHANGED = "two different letters next to each other exchanged: 1";

    /** Each letter from a to z, and behind it all its neighbours. */
    private static final String[] NEIGHBOURS = {
        "aqwsz", "bvghn", "cxdfv", "dserfcx", "ewsdr", "fdrtgvc", "gftyhbv", "hgyujnb", "iujko", "jhuikmn", "kjiolm",
        "lkop", "mnjk", "nbhjm", "oiklp", "pol", "qwa", "redft", "sawedxz", "trfgy", "uyhji", "vcfgb", "wqase", "xzsdc",
        "ytghu", "zasx",
    };

    public static void main(String[] args) {
        distanceOfWordsOfEachLength();
        distanceOfOneStep();
        distanceFromNoneToTen();
        distanceOfKnownAndUnknownWords();
        distanceRefusesNoWords();
        theKeysOfTheThreeRows();
        aLetterIsNoNeighbourOfItself();
        theEndsOfTheRows();
        priceOfWordsOfEachLength();
        lettersThatStay();
        lettersReplacedByNeighbours();
        lettersReplacedByOthers();
        lettersInserted();
        lettersDeletedWithoutADouble();
        lettersDeletedThatAreDoubles();
        doublesWhoseLeftLetterIsChanged();
        doublesAtTheLeftAlone();
        lettersExchanged();
        lettersNotNextToEachOther();
        oneStepForEachLetter();
        priceOfKnownAndUnknownWords();
        priceFromTheTypedWordToTheKnownOne();
        priceRefusesNoWords();
        eachPairOfLetters();
        theFirstLetterAndTheLast();
        theFirstOtherLetterAndTheLast();
        areNeighboursRefusesOtherLetters();
        Check.finish();
    }

    private static void distanceOfWordsOfEachLength() {
        Check.sentence("Terms, Distance and price", DISTANCE);
        FuzzyFens fens = new FuzzyFens();
        for (int i = 1; i <= Edges.MOST_LETTERS; i++) {
            for (int j = 1; j <= Edges.MOST_LETTERS; j++) {
                distance(fens, "a".repeat(i), "a".repeat(j), Math.abs(i - j));
                distance(fens, "a".repeat(i), "z".repeat(j), Math.max(i, j));
            }
        }
    }

    private static void distanceOfOneStep() {
        Check.sentence("Terms, Distance and price", DISTANCE);
        FuzzyFens fens = new FuzzyFens();
        for (String step : new String[] {"bcdefghij", "abcdefghi", "abcdfghij", "zbcdefghij", "abcdefghiz", "abcdzfghij"}) {
            distance(fens, step, "abcdefghij", 1);
            distance(fens, "abcdefghij", step, 1);
        }
        // An exchange is no step of its own here, nor is a double or a neighbour cheap.
        distance(fens, "ab", "ba", 2);
        distance(fens, "abcdefghij", "bacdefghij", 2);
        distance(fens, "abcdefghij", "abcdefghji", 2);
        distance(fens, "aa", "a", 1);
        distance(fens, "q", "w", 1);
    }

    private static void distanceFromNoneToTen() {
        Check.sentence("Promise 7", "Returns the distance of two words, known or not.");
        FuzzyFens fens = new FuzzyFens();
        for (int i = 0; i <= Edges.MOST_LETTERS; i++) {
            String mixed = "z".repeat(i) + "a".repeat(Edges.MOST_LETTERS - i);
            distance(fens, mixed, "aaaaaaaaaa", i);
            distance(fens, mixed, "zzzzzzzzzz", Edges.MOST_LETTERS - i);
        }
        distance(fens, "abcdefghij", "bcdefghija", 2);
        distance(fens, "abcdefghij", "jihgfedcba", 10);
    }

    private static void distanceOfKnownAndUnknownWords() {
        Check.sentence("Promise 7", "Returns the distance of two words, known or not.");
        FuzzyFens fens = new FuzzyFens();
        distance(fens, "fen", "fens", 1);
        fens.add(Check.word("fen"), 1000);
        distance(fens, "fen", "fens", 1);
        fens.add(Check.word("fens"), 1);
        distance(fens, "fen", "fens", 1);
        distance(fens, "fen", "fen", 0);
        fens.forget(Check.word("fen"));
        distance(fens, "fen", "fens", 1);
        distance(fens, "fen", "fen", 0);
        distance(Edges.full(), "fen", "bog", 3);
    }

    private static void distanceRefusesNoWords() {
        Check.sentence("Promise 7", "Throws IllegalArgumentException if one of them is no word");
        FuzzyFens fens = Check.knowing("fen");
        long fen = Check.word("fen");
        for (long number : Edges.noWords()) {
            Check.illegal("distance(" + number + ", fen)", () -> fens.distance(number, fen));
            Check.illegal("distance(fen, " + number + ")", () -> fens.distance(fen, number));
        }
        FuzzyFens other = Check.knowing("fen");
        for (long number : Edges.noWords()) {
            Check.illegal("distance of " + number + " from itself", () -> other.distance(number, number));
        }
    }

    private static void theKeysOfTheThreeRows() {
        Check.sentence("Terms, Distance and price", "if their keys are next to each other in one row, or if one of them is "
            + "the letter number i (from 0) of a row and the other one is the letter number i or i - 1 of the row below");
        for (String letter : NEIGHBOURS) {
            FuzzyFens fens = new FuzzyFens();
            for (char other = 'a'; other <= 'z'; other++) {
                boolean due = letter.indexOf(other) > 0;
                String call = "areNeighbours(" + letter.charAt(0) + ", " + other + ")";
                Check.due(call, fens.areNeighbours(number(letter.charAt(0)), number(other)), due);
            }
        }
    }

    private static void aLetterIsNoNeighbourOfItself() {
        Check.sentence("Terms, Distance and price", "Two different letters are neighbours");
        FuzzyFens fens = new FuzzyFens();
        for (int letter = 1; letter <= 26; letter++) {
            Check.due("areNeighbours(" + letter + ", " + letter + ")", fens.areNeighbours(letter, letter), false);
        }
    }

    private static void theEndsOfTheRows() {
        Check.sentence("Terms, Distance and price",
            "The keys of a keyboard are in three rows, qwertyuiop, asdfghjkl and zxcvbnm.");
        // The end of a row and the beginning of the next one, the ends of one row, and two rows away.
        for (String apart : new String[] {"pa", "lz", "qp", "al", "zm", "qz", "wz", "wx", "pm", "om", "lm", "pk", "qs", "zd"}) {
            neighbours(apart, false);
        }
        for (String beside : new String[] {"qw", "op", "as", "kl", "zx", "nm", "qa", "wa", "ol", "pl", "az", "sz", "jm", "km"}) {
            neighbours(beside, true);
        }
    }

    private static void priceOfWordsOfEachLength() {
        Check.sentence("Terms, Distance and price", "The price of a known word for a typed one is the least sum of prices "
            + "of steps that turn the typed word into the known one");
        FuzzyFens fens = new FuzzyFens();
        for (int i = 1; i <= Edges.MOST_LETTERS; i++) {
            for (int j = 1; j <= Edges.MOST_LETTERS; j++) {
                // Letters stay, and doubles are deleted; they are replaced by neighbours; they are replaced by others.
                price(fens, "a".repeat(i), "a".repeat(j), i < j ? 2 * (j - i) : i - j);
                price(fens, "a".repeat(i), "s".repeat(j), i < j ? i + 2 * (j - i) : i);
                price(fens, "q".repeat(i), "p".repeat(j), i + 2 * j);
            }
        }
        price(fens, "qqqqqqqqqq", "pppppppppp", 30);
        price(fens, "qwertyuiop", "qwertyuiop", 0);
    }

    private static void lettersThatStay() {
        Check.sentence("Terms, Distance and price", "a letter that stays as it is: 0");
        FuzzyFens fens = new FuzzyFens();
        for (char letter = 'a'; letter <= 'z'; letter++) {
            price(fens, "" + letter, "" + letter, 0);
            price(fens, ("" + letter).repeat(10), ("" + letter).repeat(10), 0);
        }
        price(fens, "abcdefghij", "abcdefghij", 0);
    }

    private static void lettersReplacedByNeighbours() {
        Check.sentence("Terms, Distance and price", "a letter replaced by a neighbour: 1");
        for (String letter : NEIGHBOURS) {
            FuzzyFens fens = new FuzzyFens();
            for (int i = 1; i < letter.length(); i++) {
                price(fens, letter.substring(0, 1), letter.substring(i, i + 1), 1);
            }
        }
        FuzzyFens fens = new FuzzyFens();
        price(fens, "qwqwqwqwqw", "asasasasas", 10);
        price(fens, "qbbbbbbbbb", "wbbbbbbbbb", 1);
        price(fens, "bbbbbbbbbm", "bbbbbbbbbn", 1);
    }

    private static void lettersReplacedByOthers() {
        Check.sentence("Terms, Distance and price", "by another letter: 3");
        for (String letter : NEIGHBOURS) {
            FuzzyFens fens = new FuzzyFens();
            for (char other = 'a'; other <= 'z'; other++) {
                if (letter.indexOf(other) < 0) {
                    price(fens, letter.substring(0, 1), "" + other, 3);
                }
            }
        }
        FuzzyFens fens = new FuzzyFens();
        price(fens, "qbbbbbbbbb", "pbbbbbbbbb", 3);
        price(fens, "bbbbbbbbbm", "bbbbbbbbbq", 3);
    }

    private static void lettersInserted() {
        Check.sentence("Terms, Distance and price", "a letter inserted: 2");
        FuzzyFens fens = new FuzzyFens();
        price(fens, "p", "qp", 2);
        price(fens, "p", "pq", 2);
        price(fens, "bcdefghij", "abcdefghij", 2);
        price(fens, "abcdefghi", "abcdefghij", 2);
        price(fens, "abcdfghij", "abcdefghij", 2);
        // A double or a neighbour is inserted for the same price.
        price(fens, "p", "pp", 2);
        price(fens, "p", "po", 2);
        price(fens, "p", "pppppppppp", 18);
    }

    private static void lettersDeletedWithoutADouble() {
        Check.sentence("Terms, Distance and price", DELETED);
        FuzzyFens fens = new FuzzyFens();
        price(fens, "qp", "p", 2);
        price(fens, "pq", "p", 2);
        price(fens, "abcdefghij", "bcdefghij", 2);
        price(fens, "abcdefghij", "abcdefghi", 2);
        price(fens, "abcdefghij", "abcdfghij", 2);
        // The same letter stands to the left, but not directly.
        price(fens, "pqp", "pq", 2);
        price(fens, "pqpqpqpqpq", "p", 18);
        price(fens, "po", "p", 2);
    }

    private static void lettersDeletedThatAreDoubles() {
        Check.sentence("Terms, Distance and price", DELETED);
        FuzzyFens fens = new FuzzyFens();
        price(fens, "pp", "p", 1);
        price(fens, "ppq", "pq", 1);
        price(fens, "qpp", "qp", 1);
        price(fens, "ppp", "p", 2);
        price(fens, "pppppppppp", "p", 9);
        price(fens, "aabbccddee", "abcde", 5);
        price(fens, "abcdefghii", "abcdefghi", 1);
    }

    private static void doublesWhoseLeftLetterIsChanged() {
        Check.sentence("Terms, Distance and price", DELETED);
        FuzzyFens fens = new FuzzyFens();
        // It is replaced by a neighbour, by another letter, deleted, exchanged with the one to its left.
        price(fens, "ss", "a", 2);
        price(fens, "pp", "q", 4);
        price(fens, "ppq", "q", 3);
        price(fens, "qpp", "q", 3);
        price(fens, "pqq", "qp", 2);
        price(fens, "qqqqqqqqqq", "p", 12);
    }

    private static void doublesAtTheLeftAlone() {
        Check.sentence("Terms, Distance and price", DELETED);
        FuzzyFens fens = new FuzzyFens();
        // The first q has a q to the right of it alone, and the second one is exchanged with p.
        price(fens, "qqp", "pq", 3);
        price(fens, "pqq", "qp", 2);
    }

    private static void lettersExchanged() {
        Check.sentence("Terms, Distance and price", EXCHANGED);
        FuzzyFens fens = new FuzzyFens();
        price(fens, "pq", "qp", 1);
        price(fens, "qw", "wq", 1);
        price(fens, "az", "za", 1);
        price(fens, "abcdefghij", "bacdefghij", 1);
        price(fens, "abcdefghij", "abcdefghji", 1);
        price(fens, "abcdefghij", "abcdfeghij", 1);
        price(fens, "abcdefghij", "badcfehgji", 5);
        price(fens, "pp", "pp", 0);
    }

    private static void lettersNotNextToEachOther() {
        Check.sentence("Terms, Distance and price", EXCHANGED);
        FuzzyFens fens = new FuzzyFens();
        price(fens, "pmq", "qmp", 5);
        price(fens, "pmmq", "qmmp", 6);
        // They are next to each other in one of the words alone.
        price(fens, "pa", "amp", 6);
        price(fens, "pma", "ap", 6);
    }

    private static void oneStepForEachLetter() {
        Check.sentence("Terms, Distance and price", STEPS);
        FuzzyFens fens = new FuzzyFens();
        // No letter is exchanged twice, or exchanged and then replaced.
        price(fens, "pqm", "qmp", 4);
        price(fens, "mpq", "qmp", 4);
        price(fens, "ab", "bs", 4);
        price(fens, "ba", "sb", 4);
    }

    private static void priceOfKnownAndUnknownWords() {
        Check.sentence("Promise 8", "Returns the price of a word, taken as a known one, for a typed one.");
        FuzzyFens fens = new FuzzyFens();
        price(fens, "fenn", "fen", 1);
        fens.add(Check.word("fenn"), 1000);
        price(fens, "fenn", "fen", 1);
        fens.add(Check.word("fen"), 1000);
        price(fens, "fenn", "fen", 1);
        price(fens, "fen", "fen", 0);
        fens.forget(Check.word("fen"));
        price(fens, "fenn", "fen", 1);
        price(Edges.full(), "fenn", "fen", 1);
    }

    private static void priceFromTheTypedWordToTheKnownOne() {
        Check.sentence("Promise 8", "Returns the price of a word, taken as a known one, for a typed one.");
        FuzzyFens fens = new FuzzyFens();
        price(fens, "aaaaaaaaaa", "a", 9);
        price(fens, "a", "aaaaaaaaaa", 18);
        price(fens, "qqqqqqqqqq", "p", 12);
        price(fens, "p", "qqqqqqqqqq", 21);
    }

    private static void priceRefusesNoWords() {
        Check.sentence("Promise 8", "Throws IllegalArgumentException if one of them is no word");
        FuzzyFens fens = Check.knowing("fen");
        long fen = Check.word("fen");
        for (long number : Edges.noWords()) {
            Check.illegal("price(" + number + ", fen)", () -> fens.price(number, fen));
            Check.illegal("price(fen, " + number + ")", () -> fens.price(fen, number));
        }
        FuzzyFens other = Check.knowing("fen");
        for (long number : Edges.noWords()) {
            Check.illegal("price of " + number + " for itself", () -> other.price(number, number));
        }
    }

    private static void eachPairOfLetters() {
        Check.sentence("Promise 9", "Tells whether two letters are neighbours on the keyboard.");
        for (int one = 1; one <= 26; one++) {
            FuzzyFens fens = Check.knowing("fen");
            for (int other = 1; other <= 26; other++) {
                boolean due = NEIGHBOURS[one - 1].indexOf((char) ('a' + other - 1)) > 0;
                Check.due("areNeighbours(" + one + ", " + other + ")", fens.areNeighbours(one, other), due);
                Check.due("areNeighbours(" + other + ", " + one + ")", fens.areNeighbours(other, one), due);
            }
        }
    }

    private static void theFirstLetterAndTheLast() {
        Check.sentence("Promise 9", "letter: 1 to 26");
        FuzzyFens fens = new FuzzyFens();
        Check.due("areNeighbours(1, 26)", fens.areNeighbours(1, 26), true);
        Check.due("areNeighbours(1, 2)", fens.areNeighbours(1, 2), false);
        Check.due("areNeighbours(26, 24)", fens.areNeighbours(26, 24), true);
        Check.due("areNeighbours(26, 25)", fens.areNeighbours(26, 25), false);
    }

    private static void theFirstOtherLetterAndTheLast() {
        Check.sentence("Promise 9", "other: 1 to 26");
        FuzzyFens fens = new FuzzyFens();
        Check.due("areNeighbours(17, 1)", fens.areNeighbours(17, 1), true);
        Check.due("areNeighbours(2, 1)", fens.areNeighbours(2, 1), false);
        Check.due("areNeighbours(1, 26)", fens.areNeighbours(1, 26), true);
        Check.due("areNeighbours(25, 26)", fens.areNeighbours(25, 26), false);
    }

    private static void areNeighboursRefusesOtherLetters() {
        Check.sentence("Promise 9", "Throws IllegalArgumentException if a letter is out of range");
        FuzzyFens fens = new FuzzyFens();
        List<Integer> outside = Edges.outside(1, 26);
        for (int bad : outside) {
            for (int good : new int[] {1, 13, 26}) {
                Check.illegal("areNeighbours(" + bad + ", " + good + ")", () -> fens.areNeighbours(bad, good));
                Check.illegal("areNeighbours(" + good + ", " + bad + ")", () -> fens.areNeighbours(good, bad));
            }
            Check.illegal("areNeighbours(" + bad + ", " + bad + ")", () -> fens.areNeighbours(bad, bad));
        }
        Check.illegal("areNeighbours(0, 27)", () -> fens.areNeighbours(0, 27));
        Check.illegal("areNeighbours(27, 0)", () -> fens.areNeighbours(27, 0));
    }

    private static void neighbours(String letters, boolean due) {
        FuzzyFens fens = new FuzzyFens();
        int one = number(letters.charAt(0));
        int other = number(letters.charAt(1));
        Check.due("areNeighbours of " + letters, fens.areNeighbours(one, other), due);
        Check.due("areNeighbours of " + letters + " turned round", fens.areNeighbours(other, one), due);
    }

    private static int number(char letter) {
        return letter - 'a' + 1;
    }

    private static void distance(FuzzyFens fens, String one, String other, int due) {
        long word = Check.word(one);
        Check.due("distance(" + one + ", " + other + ")", () -> fens.distance(word, Check.word(other)), due);
    }

    private static void price(FuzzyFens fens, String typed, String known, int due) {
        long word = Check.word(typed);
        Check.due("price(" + typed + ", " + known + ")", () -> fens.price(word, Check.word(known)), due);
    }
}
