import java.util.ArrayList;
import java.util.List;

/** What lies at the edges of what the document takes, on both sides of them. */
final class Edges {
    static final int MOST_CALLS = 512;
    static final int MOST_WORDS = 40;
    static final int MOST_LETTERS = 10;
    static final int MOST_OCCURRENCES = 1000;

    private Edges() {
    }

    /** The words of the smallest letters alone and of the largest ones alone, of each length. */
    static List<String> words() {
        List<String> words = new ArrayList<>();
        for (int length = 1; length <= MOST_LETTERS; length++) {
            words.add("a".repeat(length));
            words.add("z".repeat(length));
        }
        return words;
    }

    /** As many words as may be added. */
    static List<String> forty() {
        List<String> words = words();
        for (int i = 0; words.size() < MOST_WORDS; i++) {
            words.add(Check.numbered(200 + i * 13, 2));
        }
        return words;
    }

    static FuzzyFens full() {
        return Check.knowing(forty().toArray(new String[0]));
    }

    /** Some two hundred numbers that are no words: a letter out of range at each place, signs, too many letters. */
    static List<Long> noWords() {
        List<Long> numbers = new ArrayList<>();
        for (int length = 1; length <= MOST_LETTERS; length++) {
            for (int place = 0; place < length; place++) {
                addWithLetter(numbers, length, place, 0);
                addWithLetter(numbers, length, place, 27);
                addWithLetter(numbers, length, place, 31);
            }
        }
        for (int letter = 28; letter <= 30; letter++) {
            addWithLetter(numbers, 1, 0, letter);
            addWithLetter(numbers, MOST_LETTERS, 0, letter);
            addWithLetter(numbers, MOST_LETTERS, MOST_LETTERS - 1, letter);
        }
        for (int length = MOST_LETTERS + 1; length <= MOST_LETTERS + 3; length++) {
            numbers.add(Check.word("a".repeat(length)));
            numbers.add(Check.word("z".repeat(length)));
        }
        // A word in the lower bits, and more than a word in the ones above them.
        for (int bit = 50; bit <= 63; bit++) {
            numbers.add((1L << bit) + Check.word("aaaaaaaaaa"));
        }
        numbers.add((1L << 32) + 1);
        numbers.add((1L << 63) + 1);
        for (long negative : new long[] {-1, -2, -26, -32, -33, Integer.MIN_VALUE, Long.MIN_VALUE}) {
            numbers.add(negative);
        }
        numbers.add(-Check.word("zzzzzzzzzz"));
        numbers.add(Check.word("zzzzzzzzzz") + 1);
        numbers.add(Check.word("aaaaaaaaaa") - 1);
        numbers.add((long) Integer.MAX_VALUE);
        numbers.add(Long.MAX_VALUE);
        return numbers;
    }

    /** Numbers on both sides of a range: next to it, far away, and those that a shorter type would take for inner ones. */
    static List<Integer> outside(int least, int greatest) {
        List<Integer> numbers = new ArrayList<>();
        for (int near : new int[] {least - 1, least - 2, greatest + 1, greatest + 2, -greatest - 1}) {
            numbers.add(near);
        }
        for (int wrap : new int[] {1 << 8, -(1 << 8), 1 << 16, -(1 << 16), 1 << 31}) {
            numbers.add(least + wrap);
            numbers.add(greatest + wrap);
        }
        numbers.add(Integer.MAX_VALUE);
        numbers.add(Integer.MIN_VALUE);
        numbers.removeIf(number -> least <= number && number <= greatest);
        return numbers;
    }

    private static void addWithLetter(List<Long> numbers, int length, int place, int letter) {
        long number = 0;
        for (int i = 0; i < length; i++) {
            number = number * 32 + (i == place ? letter : 13);
        }
        // Without its first letter a longer number is a word again, only a shorter one.
        if (letter > 0 || place > 0 || length == 1) {
            numbers.add(number);
        }
    }
}
