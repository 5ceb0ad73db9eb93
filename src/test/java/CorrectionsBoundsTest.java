import java.util.ArrayList;
import java.util.Collections;
import java.util.List;

/** The boundary cases of the terms on corrections, and of promises 10 to 12: corrections, correction, nearest. */
public final class CorrectionsBoundsTest {
    private static final int WIDEST = 3;
    private static final String WRONG = "Throws IllegalArgumentException if typed is no word, or k is out of range";

    public static void main(String[] args) {
        distancesOfAtMostK();
        theWordItselfAlone();
        risingPrices();
        pricesAndNotDistances();
        fallingCounts();
        countsOfTheSameOrder();
        alphabetically();
        aWordThatAnotherOneBeginsWith();
        fortyAtOnePrice();
        numberFromNoneToForty();
        numberWithoutWords();
        numberForTheLeastKAndTheGreatest();
        correctionsRefuseBadArguments();
        correctionAtEachPlace();
        theFirstPlaceAndTheLast();
        correctionForTheLeastKAndTheGreatest();
        correctionRefusesBadArguments();
        noPlaceWithoutWords();
        noPlaceAfterTheLast();
        nearestFromNoneToTen();
        nearestWithoutWords();
        nearestOfKnownWordsAlone();
        nearestRefusesNoWords();
        Check.finish();
    }

    private static void distancesOfAtMostK() {
        Check.sentence("Terms, Corrections",
            "The corrections of a typed word for k are the known words with a distance of at most k from it");
        FuzzyFens replaced = new FuzzyFens();
        FuzzyFens deleted = new FuzzyFens();
        FuzzyFens others = new FuzzyFens();
        for (int i = 0; i < Edges.MOST_LETTERS; i++) {
            replaced.add(Check.word("z".repeat(i) + "m".repeat(Edges.MOST_LETTERS - i)), 1);
            deleted.add(Check.word("m".repeat(Edges.MOST_LETTERS - i)), 1);
            others.add(Check.word("z".repeat(Edges.MOST_LETTERS - i)), 1);
        }
        for (int k = 0; k <= WIDEST; k++) {
            number(replaced, "mmmmmmmmmm", k, k + 1);
            number(deleted, "mmmmmmmmmm", k, k + 1);
            number(deleted, "m", k, k + 1);
            number(deleted, "mmmmm", k, 2 * k + 1);
            number(others, "m", k, k);
            number(others, "mmmmmmmmmm", k, 0);
        }
    }

    private static void theWordItselfAlone() {
        Check.sentence("Terms, Corrections",
            "The corrections of a typed word for k are the known words with a distance of at most k from it");
        FuzzyFens full = Edges.full();
        for (String word : Edges.words()) {
            corrections(full, word, 0, word);
        }
        number(full, "fen", 0, 0);
        full.forget(Check.word("a"));
        number(full, "a", 0, 0);
    }

    private static void risingPrices() {
        Check.sentence("Terms, Corrections", "ordered by rising prices");
        // The dearer a word is, the more often it has been added.
        FuzzyFens fens = new FuzzyFens();
        String[] sorted = {"qqq", "wqq", "wwq", "www", "pwq", "pww", "ppq", "ppw", "ppp"};
        for (int i = 0; i < sorted.length; i++) {
            fens.add(Check.word(sorted[i]), 1 + i * 100);
        }
        corrections(fens, "qqq", 3, sorted);
        corrections(fens, "qqq", 2, "qqq", "wqq", "wwq", "pwq", "ppq");
        corrections(fens, "qqq", 1, "qqq", "wqq");
        corrections(fens, "qqq", 0, "qqq");
    }

    private static void pricesAndNotDistances() {
        Check.sentence("Terms, Corrections", "ordered by rising prices");
        // The exchange has the distance 2 and the price 1, the other letter the distance 1 and the price 3.
        FuzzyFens fens = Check.knowing("pen", "efn");
        corrections(fens, "fen", 2, "efn", "pen");
        corrections(fens, "fen", 1, "pen");
        // The price of "a" for "aaaa" is 3, that of "aaaaa" 2, and not the other way round.
        corrections(Check.knowing("a", "aaaaa"), "aaaa", 3, "aaaaa", "a");
        corrections(Check.knowing("aa", "aaaaa"), "aaaa", 3, "aa", "aaaaa");
    }

    private static void fallingCounts() {
        Check.sentence("Terms, Corrections", "those with the same price by falling counts");
        FuzzyFens fens = new FuzzyFens();
        fens.add(Check.word("i"), 1);
        fens.add(Check.word("m"), 2);
        fens.add(Check.word("n"), 999);
        fens.add(Check.word("o"), 1000);
        fens.add(Check.word("p"), 1000);
        fens.add(Check.word("p"), 1);
        corrections(fens, "q", 1, "p", "o", "n", "m", "i");
        fens.add(Check.word("o"), 2);
        corrections(fens, "q", 1, "o", "p", "n", "m", "i");
        fens.forget(Check.word("o"));
        fens.add(Check.word("o"), 1000);
        corrections(fens, "q", 1, "p", "o", "n", "m", "i");
        fens.add(Check.word("i"), 1);
        corrections(fens, "q", 1, "p", "o", "n", "i", "m");
    }

    private static void countsOfTheSameOrder() {
        Check.sentence("Terms, Corrections", "those with the same price by falling counts");
        // As high a count as the calls reach does not make up for a price of 1.
        FuzzyFens fens = new FuzzyFens();
        fens.add(Check.word("fen"), 1);
        for (int i = 0; i < 500; i++) {
            fens.add(Check.word("fem"), 1000);
        }
        corrections(fens, "fen", 1, "fen", "fem");
    }

    private static void alphabetically() {
        Check.sentence("Terms, Corrections", "those with the same count alphabetically");
        corrections(Check.knowing("zq", "qz", "qm", "mq"), "q", 1, "mq", "qm", "qz", "zq");
        FuzzyFens fens = new FuzzyFens();
        for (String word : new String[] {"p", "m", "z", "i", "n", "y"}) {
            fens.add(Check.word(word), 1000);
        }
        corrections(fens, "q", 3, "i", "m", "n", "p", "y", "z");
        // A longer word may stand ahead.
        corrections(Check.knowing("aq", "aon"), "am", 2, "aon", "aq");
    }

    private static void aWordThatAnotherOneBeginsWith() {
        Check.sentence("Terms", "a word that another one begins with comes before that");
        corrections(Check.knowing("aqn", "aq"), "am", 2, "aq", "aqn");
        corrections(Check.knowing("aq", "aqn"), "am", 3, "aq", "aqn");
    }

    private static void fortyAtOnePrice() {
        Check.sentence("Terms, Corrections", "those with the same count alphabetically");
        List<String> words = fortyFarFromQ();
        List<String> sorted = new ArrayList<>(words);
        Collections.sort(sorted);
        FuzzyFens fens = Check.knowing(words.toArray(new String[0]));
        for (int place = 0; place < Edges.MOST_WORDS; place++) {
            int at = place;
            Check.due("correction(qq, 2, " + place + ")", () -> fens.correction(Check.word("qq"), 2, at),
                Check.word(sorted.get(place)));
        }
        // The last one of all is the first, as soon as it has been added more often.
        fens.add(Check.word(sorted.get(39)), 1);
        Check.due("correction(qq, 2, 0)", () -> fens.correction(Check.word("qq"), 2, 0), Check.word(sorted.get(39)));
        Check.due("correction(qq, 2, 39)", () -> fens.correction(Check.word("qq"), 2, 39), Check.word(sorted.get(38)));
    }

    private static void numberFromNoneToForty() {
        Check.sentence("Promise 10", "Returns the number of corrections.");
        FuzzyFens fens = new FuzzyFens();
        int due = 0;
        number(fens, "qq", 2, due);
        for (String word : fortyFarFromQ()) {
            fens.add(Check.word(word), 1);
            due++;
            number(fens, "qq", 1, 0);
            number(fens, "qq", 2, due);
            number(fens, "qq", 3, due);
        }
        for (String word : fortyFarFromQ()) {
            fens.forget(Check.word(word));
            due--;
            number(fens, "qq", 2, due);
        }
    }

    private static void numberWithoutWords() {
        Check.sentence("Promise 10", "Returns the number of corrections.");
        FuzzyFens fens = new FuzzyFens();
        for (String word : Edges.words()) {
            for (int k = 0; k <= WIDEST; k++) {
                number(fens, word, k, 0);
            }
        }
        fens.add(Check.word("a"), 1);
        fens.forget(Check.word("a"));
        number(fens, "a", 0, 0);
        number(fens, "a", 3, 0);
    }

    private static void numberForTheLeastKAndTheGreatest() {
        Check.sentence("Promise 10", "k: 0 to 3");
        FuzzyFens fens = Check.knowing("fen", "fens", "fenny", "fences", "fenced", "fencers");
        number(fens, "fen", 0, 1);
        number(fens, "fen", 1, 2);
        number(fens, "fen", 2, 3);
        number(fens, "fen", 3, 5);
    }

    private static void correctionsRefuseBadArguments() {
        Check.sentence("Promise 10", WRONG);
        for (FuzzyFens fens : List.of(new FuzzyFens(), Edges.full())) {
            for (long number : Edges.noWords()) {
                Check.illegal("corrections(" + number + ", 0)", () -> fens.corrections(number, 0));
            }
            for (int bad : Edges.outside(0, WIDEST)) {
                Check.illegal("corrections(a, " + bad + ")", () -> fens.corrections(1, bad));
            }
        }
    }

    private static void correctionAtEachPlace() {
        Check.sentence("Promise 11", "Returns the correction at a place.");
        // By price, by count, and alphabetically; the prices for "fen" are 0, 1, 1, 2, 2, 2, 3 and 3.
        FuzzyFens fens = new FuzzyFens();
        fens.add(Check.word("fan"), 1000);
        fens.add(Check.word("fenz"), 2);
        fens.add(Check.word("den"), 2);
        fens.add(Check.word("fin"), 1000);
        fens.add(Check.word("fe"), 2);
        fens.add(Check.word("fen"), 1);
        fens.add(Check.word("efn"), 3);
        fens.add(Check.word("zfen"), 30);
        corrections(fens, "fen", 3, "fen", "efn", "den", "zfen", "fe", "fenz", "fan", "fin");
        corrections(fens, "fen", 1, "fen", "den", "zfen", "fe", "fenz", "fan", "fin");
        // A place is looked for anew, whatever place, word or k was asked for ahead of it.
        Check.due("correction(fen, 3, 7)", () -> fens.correction(Check.word("fen"), 3, 7), Check.word("fin"));
        Check.due("correction(fan, 0, 0)", () -> fens.correction(Check.word("fan"), 0, 0), Check.word("fan"));
        Check.due("correction(fen, 1, 1)", () -> fens.correction(Check.word("fen"), 1, 1), Check.word("den"));
    }

    private static void theFirstPlaceAndTheLast() {
        Check.sentence("Promise 11", "place: 0 for the first one");
        FuzzyFens one = Check.knowing("m");
        Check.due("correction(m, 0, 0)", () -> one.correction(Check.word("m"), 0, 0), Check.word("m"));
        Check.due("correction(z, 3, 0)", () -> one.correction(Check.word("z"), 3, 0), Check.word("m"));
        FuzzyFens full = Edges.full();
        Check.due("correction(aaaaaaaaaa, 3, 0)", () -> full.correction(Check.word("aaaaaaaaaa"), 3, 0),
            Check.word("aaaaaaaaaa"));
        // Each deleted double makes it dearer by 1.
        Check.due("correction(aaaaaaaaaa, 3, 3)", () -> full.correction(Check.word("aaaaaaaaaa"), 3, 3),
            Check.word("aaaaaaa"));
        Check.noPlace("correction(aaaaaaaaaa, 3, 4)", () -> full.correction(Check.word("aaaaaaaaaa"), 3, 4));
    }

    private static void correctionForTheLeastKAndTheGreatest() {
        Check.sentence("Promise 11", "k: 0 to 3");
        FuzzyFens fens = Check.knowing("fen", "fens", "fenny", "fences", "fencers");
        corrections(fens, "fen", 0, "fen");
        corrections(fens, "fen", 3, "fen", "fens", "fenny", "fences");
    }

    private static void correctionRefusesBadArguments() {
        Check.sentence("Promise 11", WRONG);
        for (FuzzyFens fens : List.of(new FuzzyFens(), Edges.full())) {
            for (long number : Edges.noWords()) {
                Check.illegal("correction(" + number + ", 0, 0)", () -> fens.correction(number, 0, 0));
            }
            for (int bad : Edges.outside(0, WIDEST)) {
                Check.illegal("correction(a, " + bad + ", 0)", () -> fens.correction(1, bad, 0));
            }
        }
    }

    private static void noPlaceWithoutWords() {
        Check.sentence("Promise 11", "Throws IndexOutOfBoundsException if there is no such place");
        FuzzyFens fens = new FuzzyFens();
        noPlaces(fens, "a", 0);
        noPlaces(fens, "a", 3);
        fens.add(Check.word("a"), 1);
        fens.forget(Check.word("a"));
        noPlaces(fens, "a", 0);
        noPlaces(fens, "a", 3);
    }

    private static void noPlaceAfterTheLast() {
        Check.sentence("Promise 11", "Throws IndexOutOfBoundsException if there is no such place");
        FuzzyFens full = Check.knowing(fortyFarFromQ().toArray(new String[0]));
        noPlaces(full, "qq", 0);
        noPlaces(full, "qq", 1);
        Check.due("corrections(qq, 2)", full.corrections(Check.word("qq"), 2), Edges.MOST_WORDS);
        noPlaces(full, "qq", 2);
        // Fewer places are left for a smaller k, and after a word was forgotten.
        noPlaces(full, "qq", 1);
        full.forget(Check.word(fortyFarFromQ().get(0)));
        Check.noPlace("correction(qq, 2, 39)", () -> full.correction(Check.word("qq"), 2, 39));
        noPlaces(full, "qq", 2);
    }

    private static void nearestFromNoneToTen() {
        Check.sentence("Promise 12", "Returns the least distance of a known word from a word");
        for (int i = 0; i <= Edges.MOST_LETTERS; i++) {
            String known = "z".repeat(i) + "m".repeat(Edges.MOST_LETTERS - i);
            FuzzyFens fens = Check.knowing("zzzzzzzzzz", known);
            Check.due("nearest(mmmmmmmmmm) with " + known, fens.nearest(Check.word("mmmmmmmmmm")), i);
        }
        FuzzyFens full = Edges.full();
        for (String word : Edges.words()) {
            Check.due("nearest(" + word + ")", full.nearest(Check.word(word)), 0);
        }
        Check.due("nearest(bbbbbbbbbb)", full.nearest(Check.word("bbbbbbbbbb")), 10);
    }

    private static void nearestWithoutWords() {
        Check.sentence("Promise 12", "NONE if no word is known");
        FuzzyFens fens = new FuzzyFens();
        for (String word : Edges.words()) {
            Check.due("nearest(" + word + ")", fens.nearest(Check.word(word)), FuzzyFens.NONE);
        }
        fens.add(Check.word("a"), 1);
        Check.due("nearest(a)", fens.nearest(Check.word("a")), 0);
        fens.forget(Check.word("a"));
        Check.due("nearest(a) after it was forgotten", fens.nearest(Check.word("a")), FuzzyFens.NONE);
    }

    private static void nearestOfKnownWordsAlone() {
        Check.sentence("Promise 12", "Returns the least distance of a known word from a word");
        FuzzyFens fens = Check.knowing("a", "aaaaaaaaaa");
        Check.due("nearest(aa)", fens.nearest(Check.word("aa")), 1);
        fens.forget(Check.word("a"));
        Check.due("nearest(aa) without a", fens.nearest(Check.word("aa")), 8);
        Check.due("nearest(a) without a", fens.nearest(Check.word("a")), 9);
        Check.due("nearest(z) without a", fens.nearest(Check.word("z")), 10);
        fens.add(Check.word("a"), 1);
        Check.due("nearest(aa)", fens.nearest(Check.word("aa")), 1);
    }

    private static void nearestRefusesNoWords() {
        Check.sentence("Promise 12", "Throws IllegalArgumentException if typed is no word");
        for (FuzzyFens fens : List.of(new FuzzyFens(), Edges.full())) {
            for (long number : Edges.noWords()) {
                Check.illegal("nearest(" + number + ")", () -> fens.nearest(number));
            }
        }
    }

    /** Forty words of two letters, in no order, each of them at the distance 2 and the price 6 from qq. */
    private static List<String> fortyFarFromQ() {
        String letters = "bcdefghijklmnoprstuvxyz";
        List<String> words = new ArrayList<>();
        for (int i = 0; i < Edges.MOST_WORDS; i++) {
            int place = i * 13 + 5;
            words.add("" + letters.charAt(place / letters.length()) + letters.charAt(place % letters.length()));
        }
        Collections.swap(words, 0, 39);
        Collections.swap(words, 7, 23);
        Collections.reverse(words.subList(10, 20));
        return words;
    }

    private static void number(FuzzyFens fens, String typed, int k, int due) {
        Check.due("corrections(" + typed + ", " + k + ")", () -> fens.corrections(Check.word(typed), k), due);
    }

    private static void corrections(FuzzyFens fens, String typed, int k, String... due) {
        number(fens, typed, k, due.length);
        for (int i = 0; i < due.length; i++) {
            int place = i;
            Check.due("correction(" + typed + ", " + k + ", " + place + ")",
                () -> fens.correction(Check.word(typed), k, place), Check.word(due[i]));
        }
    }

    private static void noPlaces(FuzzyFens fens, String typed, int k) {
        int places = fens.corrections(Check.word(typed), k);
        for (int bad : Edges.outside(0, places - 1)) {
            Check.noPlace("correction(" + typed + ", " + k + ", " + bad + ")",
                () -> fens.correction(Check.word(typed), k, bad));
        }
        for (int place = places; place <= Edges.MOST_WORDS + 1; place++) {
            int bad = place;
            Check.noPlace("correction(" + typed + ", " + k + ", " + bad + ")",
                () -> fens.correction(Check.word(typed), k, bad));
        }
    }
}
