/** Promises 10 to 12: corrections, correction, nearest. */
public final class CorrectionsTest {
    public static void main(String[] args) {
        noWords();
        distancesAreBounded();
        orderedByPrice();
        samePriceByCount();
        sameCountAlphabetically();
        forgottenWordsAreNoCorrections();
        aFullObject();
        nearest();
        wrongInputs();
        Check.finish();
    }

    private static void noWords() {
        FuzzyFens fens = new FuzzyFens();
        for (int k = 0; k <= 3; k++) {
            checkCorrections(fens, "fen", k);
        }
        Check.due("nearest(fen)", fens.nearest(Check.word("fen")), FuzzyFens.NONE);
    }

    private static void distancesAreBounded() {
        FuzzyFens fens = Check.knowing("reed", "reeds", "reedbed", "bed", "reedbeds");
        checkCorrections(fens, "reed", 0, "reed");
        checkCorrections(fens, "reed", 1, "reed", "reeds");
        checkCorrections(fens, "reed", 2, "reed", "reeds", "bed");
        checkCorrections(fens, "reed", 3, "reed", "reeds", "bed", "reedbed");
        checkCorrections(fens, "reef", 0);
        // An exchange is cheap but counts as a distance of 2.
        checkCorrections(fens, "ebd", 1);
        checkCorrections(fens, "ebd", 2, "bed", "reed");
    }

    private static void orderedByPrice() {
        // For "fen": a neighbour 1, another letter 3, an insertion 2, a deletion 2, an exchange 1.
        FuzzyFens fens = new FuzzyFens();
        fens.add(Check.word("pen"), 1000);
        fens.add(Check.word("fens"), 900);
        fens.add(Check.word("fen"), 1);
        fens.add(Check.word("fem"), 2);
        checkCorrections(fens, "fen", 0, "fen");
        checkCorrections(fens, "fen", 1, "fen", "fem", "fens", "pen");
        fens.add(Check.word("efn"), 1);
        checkCorrections(fens, "fen", 1, "fen", "fem", "fens", "pen");
        checkCorrections(fens, "fen", 2, "fen", "fem", "efn", "fens", "pen");
        // The price goes from the typed word to the known one: it is not the same the other way round.
        FuzzyFens doubles = new FuzzyFens();
        doubles.add(Check.word("bog"), 1);
        doubles.add(Check.word("boogs"), 1000);
        checkCorrections(doubles, "boog", 1, "bog", "boogs");
    }

    private static void samePriceByCount() {
        FuzzyFens fens = new FuzzyFens();
        fens.add(Check.word("fena"), 5);
        fens.add(Check.word("fenb"), 7);
        fens.add(Check.word("fenc"), 6);
        checkCorrections(fens, "fen", 1, "fenb", "fenc", "fena");
        fens.add(Check.word("fena"), 3);
        checkCorrections(fens, "fen", 1, "fena", "fenb", "fenc");
        fens.forget(Check.word("fena"));
        fens.add(Check.word("fena"), 1);
        checkCorrections(fens, "fen", 1, "fenb", "fenc", "fena");
    }

    private static void sameCountAlphabetically() {
        FuzzyFens fens = Check.knowing("zfen", "fenz", "fena", "afen", "fenaa", "mfen");
        checkCorrections(fens, "fen", 1, "afen", "fena", "fenz", "mfen", "zfen");
        fens.add(Check.word("zfen"), 1);
        fens.add(Check.word("fenz"), 1);
        checkCorrections(fens, "fen", 1, "fenz", "zfen", "afen", "fena", "mfen");
        checkCorrections(Check.knowing("aba", "ab"), "abac", 3, "aba", "ab");
        checkCorrections(Check.knowing("qa", "q", "z", "qap"), "a", 3, "q", "z", "qa", "qap");
    }

    private static void forgottenWordsAreNoCorrections() {
        FuzzyFens fens = Check.knowing("mud", "mut", "mad");
        fens.forget(Check.word("mud"));
        checkCorrections(fens, "mud", 0);
        checkCorrections(fens, "mud", 1, "mad", "mut");
        fens.forget(Check.word("mut"));
        fens.forget(Check.word("mad"));
        checkCorrections(fens, "mud", 3);
        fens.add(Check.word("mud"), 1);
        checkCorrections(fens, "mud", 3, "mud");
    }

    private static void aFullObject() {
        FuzzyFens fens = new FuzzyFens();
        String[] due = new String[40];
        for (int i = 0; i < 40; i++) {
            due[i] = Check.numbered(i, 2);
            fens.add(Check.word(Check.numbered(39 - i, 2)), 40 - i);
        }
        // The words are aa to az and ba to bn, the later the more frequent, so ap alone has a p.
        Check.due("corrections(pppp, 3)", fens.corrections(Check.word("pppp"), 3), 1);
        Check.due("corrections(mmm, 3)", fens.corrections(Check.word("mmm"), 3), 40);
        Check.due("corrections(mm, 2)", fens.corrections(Check.word("mm"), 2), 40);
        Check.due("corrections(mm, 1)", fens.corrections(Check.word("mm"), 1), 2);
        Check.due("correction(mm, 1, 0)", fens.correction(Check.word("mm"), 1, 0), Check.word("bm"));
        Check.due("correction(mm, 1, 1)", fens.correction(Check.word("mm"), 1, 1), Check.word("am"));
        Check.noPlace("correction(mm, 2, 40)", () -> fens.correction(Check.word("mm"), 2, 40));
        for (int i = 0; i < 40; i++) {
            Check.due("wordAt(" + i + ")", fens.wordAt(i), Check.word(due[i]));
        }
    }

    private static void nearest() {
        FuzzyFens fens = Check.knowing("reed", "aaaaaaaaaa");
        Check.due("nearest(reed)", fens.nearest(Check.word("reed")), 0);
        Check.due("nearest(reeds)", fens.nearest(Check.word("reeds")), 1);
        Check.due("nearest(zzzzzzzzzz)", fens.nearest(Check.word("zzzzzzzzzz")), 10);
        Check.due("nearest(aaaaazzzzz)", fens.nearest(Check.word("aaaaazzzzz")), 5);
        fens.forget(Check.word("reed"));
        Check.due("nearest(reed)", fens.nearest(Check.word("reed")), 10);
        fens.forget(Check.word("aaaaaaaaaa"));
        Check.due("nearest(reed)", fens.nearest(Check.word("reed")), FuzzyFens.NONE);
    }

    private static void wrongInputs() {
        FuzzyFens fens = Check.knowing("fen");
        long fen = Check.word("fen");
        for (long number : Check.NO_WORDS) {
            Check.illegal("corrections(" + number + ", 1)", () -> fens.corrections(number, 1));
            Check.illegal("correction(" + number + ", 1, 0)", () -> fens.correction(number, 1, 0));
            Check.illegal("correction(" + number + ", 1, 9)", () -> fens.correction(number, 1, 9));
            Check.illegal("nearest(" + number + ")", () -> fens.nearest(number));
        }
        for (int bad : new int[] {-1, 4, Integer.MAX_VALUE, Integer.MIN_VALUE}) {
            Check.illegal("corrections(fen, " + bad + ")", () -> fens.corrections(fen, bad));
            Check.illegal("correction(fen, " + bad + ", 0)", () -> fens.correction(fen, bad, 0));
            Check.illegal("correction(fen, " + bad + ", -1)", () -> fens.correction(fen, bad, -1));
            Check.noPlace("correction(fen, 3, " + bad + ")", () -> fens.correction(fen, 3, bad));
        }
    }

    private static void checkCorrections(FuzzyFens fens, String typed, int k, String... due) {
        String call = "(" + typed + ", " + k;
        Check.due("corrections" + call + ")", fens.corrections(Check.word(typed), k), due.length);
        for (int i = 0; i < due.length; i++) {
            Check.due("correction" + call + ", " + i + ")", fens.correction(Check.word(typed), k, i), Check.word(due[i]));
        }
        for (int bad : new int[] {-1, due.length, 40, Integer.MAX_VALUE, Integer.MIN_VALUE}) {
            Check.noPlace("correction" + call + ", " + bad + ")", () -> fens.correction(Check.word(typed), k, bad));
        }
    }
}
