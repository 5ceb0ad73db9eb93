/** Promises 7 to 9: distance, price, areNeighbours. */
public final class DistancesTest {
    private static final String[] KEYS = {"qwertyuiop", "asdfghjkl", "zxcvbnm"};

    public static void main(String[] args) {
        FuzzyFens fens = Check.knowing("fen");
        distances(fens);
        stays(fens);
        replacements(fens);
        insertionsAndDeletions(fens);
        exchanges(fens);
        wrongInputs(fens);
        neighbours(fens);
        eachPairOfLetters();
        Check.finish();
    }

    private static void distances(FuzzyFens fens) {
        distance(fens, "fen", "fen", 0);
        distance(fens, "a", "a", 0);
        distance(fens, "a", "z", 1);
        distance(fens, "a", "aaaaaaaaaa", 9);
        distance(fens, "b", "aaaaaaaaaa", 10);
        distance(fens, "zzzzzzzzzz", "aaaaaaaaaa", 10);
        distance(fens, "kitten", "sitting", 3);
        distance(fens, "sunday", "saturday", 3);
        distance(fens, "ab", "ba", 2);
        distance(fens, "abcd", "bcd", 1);
        distance(fens, "abcd", "abc", 1);
        distance(fens, "abcd", "abxcd", 1);
        distance(fens, "abcdefghij", "bcdefghija", 2);
        distance(fens, "abcdefghij", "jihgfedcba", 10);
    }

    private static void stays(FuzzyFens fens) {
        price(fens, "fen", "fen", 0);
        price(fens, "aaaaaaaaaa", "aaaaaaaaaa", 0);
        price(fens, "z", "z", 0);
    }

    private static void replacements(FuzzyFens fens) {
        price(fens, "q", "w", 1);
        price(fens, "w", "q", 1);
        price(fens, "q", "a", 1);
        price(fens, "q", "z", 3);
        price(fens, "q", "p", 3);
        price(fens, "p", "q", 3);
        price(fens, "qqqqqqqqqq", "pppppppppp", 30);
        price(fens, "qwqwqwqwqw", "asasasasas", 10);
        price(fens, "fen", "fin", 3);
        price(fens, "fen", "frn", 1);
    }

    private static void insertionsAndDeletions(FuzzyFens fens) {
        price(fens, "a", "ab", 2);
        price(fens, "b", "ab", 2);
        price(fens, "a", "aaaaaaaaaa", 18);
        price(fens, "ab", "a", 2);
        price(fens, "ab", "b", 2);
        price(fens, "aab", "ab", 1);
        price(fens, "abb", "ab", 1);
        price(fens, "ab", "aab", 2);
        price(fens, "aaaaaaaaaa", "a", 9);
        price(fens, "aa", "b", 4);
        price(fens, "ss", "a", 2);
        price(fens, "aba", "ab", 2);
        // The letter to the left of the deleted one is deleted, too, or exchanged, and makes it cheap all the same.
        price(fens, "paa", "p", 3);
        price(fens, "pqqq", "p", 4);
        price(fens, "pqq", "qp", 2);
    }

    private static void exchanges(FuzzyFens fens) {
        price(fens, "ab", "ba", 1);
        price(fens, "pq", "qp", 1);
        price(fens, "efn", "fen", 1);
        price(fens, "abcdefghij", "badcfehgji", 5);
        price(fens, "pqz", "zpq", 4);
        // Letters take part in one step at most, so nothing comes between two that are exchanged.
        price(fens, "pa", "amp", 6);
        price(fens, "pma", "ap", 6);
        price(fens, "aa", "aa", 0);
        price(fens, "xpqx", "xqpx", 1);
    }

    private static void wrongInputs(FuzzyFens fens) {
        long fen = Check.word("fen");
        for (long number : Check.NO_WORDS) {
            Check.illegal("distance(" + number + ", fen)", () -> fens.distance(number, fen));
            Check.illegal("distance(fen, " + number + ")", () -> fens.distance(fen, number));
            Check.illegal("price(" + number + ", fen)", () -> fens.price(number, fen));
            Check.illegal("price(fen, " + number + ")", () -> fens.price(fen, number));
        }
        for (int bad : new int[] {0, -1, 27, 32, Integer.MAX_VALUE, Integer.MIN_VALUE}) {
            Check.illegal("areNeighbours(" + bad + ", 1)", () -> fens.areNeighbours(bad, 1));
            Check.illegal("areNeighbours(1, " + bad + ")", () -> fens.areNeighbours(1, bad));
            Check.illegal("areNeighbours(" + bad + ", " + bad + ")", () -> fens.areNeighbours(bad, bad));
        }
    }

    private static void neighbours(FuzzyFens fens) {
        neighbours(fens, 'q', "wa");
        neighbours(fens, 'p', "ol");
        neighbours(fens, 'a', "qwsz");
        neighbours(fens, 's', "wedxza");
        neighbours(fens, 'l', "kop");
        neighbours(fens, 'k', "jliom");
        neighbours(fens, 'z', "asx");
        neighbours(fens, 'm', "njk");
        neighbours(fens, 'g', "tyfhvb");
    }

    private static void neighbours(FuzzyFens fens, char letter, String all) {
        for (char other = 'a'; other <= 'z'; other++) {
            boolean due = all.indexOf(other) >= 0;
            Check.due("areNeighbours(" + letter + ", " + other + ")", fens.areNeighbours(number(letter), number(other)), due);
        }
    }

    private static void eachPairOfLetters() {
        for (char one = 'a'; one <= 'z'; one++) {
            FuzzyFens fens = new FuzzyFens();
            for (char other = 'a'; other <= 'z'; other++) {
                boolean due = touches(one, other) || touches(other, one);
                Check.due("areNeighbours(" + one + ", " + other + ")", fens.areNeighbours(number(one), number(other)), due);
            }
        }
    }

    private static boolean touches(char one, char other) {
        for (int row = 0; row < KEYS.length; row++) {
            int place = KEYS[row].indexOf(one);
            if (place >= 0) {
                String below = row + 1 < KEYS.length ? KEYS[row + 1] : "";
                return KEYS[row].indexOf(other) == place + 1
                    || below.indexOf(other) >= 0 && (below.indexOf(other) == place || below.indexOf(other) == place - 1);
            }
        }
        return false;
    }

    private static int number(char letter) {
        return letter - 'a' + 1;
    }

    private static void distance(FuzzyFens fens, String one, String other, int due) {
        Check.due("distance(" + one + ", " + other + ")", fens.distance(Check.word(one), Check.word(other)), due);
        Check.due("distance(" + other + ", " + one + ")", fens.distance(Check.word(other), Check.word(one)), due);
    }

    private static void price(FuzzyFens fens, String typed, String known, int due) {
        Check.due("price(" + typed + ", " + known + ")", fens.price(Check.word(typed), Check.word(known)), due);
    }
}
