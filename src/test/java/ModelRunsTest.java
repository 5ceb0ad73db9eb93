import java.util.ArrayList;
import java.util.List;
import java.util.function.LongSupplier;

/** Promises 2 to 22: long runs of mixed calls, each answer compared with that of the model. */
public final class ModelRunsTest {
    private static final int RUNS = 120;
    private static final int CALLS = 512;
    /** The letters of the words of a run: few of them make words alike, all of them make words apart. */
    private static final String[] ALPHABETS = {"a", "ab", "asq", "pol", "fens", "qwas", "abcdefghijklmnopqrstuvwxyz"};

    private long state;
    private FuzzyFens fens;
    private Model model;
    private List<String> pool;

    public static void main(String[] args) {
        for (int run = 0; run < RUNS; run++) {
            new ModelRunsTest().run(run);
        }
        Check.finish();
    }

    private void run(int number) {
        state = number * 7919L + 13;
        fens = new FuzzyFens();
        model = new Model();
        pool = new ArrayList<>();
        String alphabet = ALPHABETS[number % ALPHABETS.length];
        int longest = 1 + next(10);
        int wordsInPool = 5 + next(60);
        for (int i = 0; i < wordsInPool; i++) {
            pool.add(i > 0 && next(3) == 0 ? altered(pool.get(next(i)), alphabet) : made(alphabet, longest));
        }
        int adding = 2 + next(6);
        for (int i = 0; i < CALLS; i++) {
            call("run " + number + ", call " + i + ": ", next(10) < adding ? next(3) : next(22));
        }
    }

    private void call(String at, int kind) {
        String one = pool.get(next(pool.size()));
        String other = pool.get(next(pool.size()));
        int k = next(4);
        int place = next(8) == 0 ? next(44) - 2 : next(6);
        String said = at + kind + "(" + one + ", " + other + ", " + k + ", " + place + ")";
        compare(said, () -> answer(kind, one, other, k, place), () -> due(kind, one, other, k, place));
    }

    private long answer(int kind, String one, String other, int k, int place) {
        long word = Check.word(one);
        switch (kind) {
            case 0: case 1: return fens.add(word, occurrences(k, place));
            case 2: return place % 3 == 0 ? fens.forget(word) : fens.count(word);
            case 3: return fens.words();
            case 4: return fens.count(word);
            case 5: return fens.wordAt(place);
            case 6: return fens.distance(word, Check.word(other));
            case 7: return fens.price(word, Check.word(other));
            case 8: return fens.areNeighbours(one.charAt(0) - 'a' + 1, other.charAt(0) - 'a' + 1) ? 1 : 0;
            case 9: return fens.corrections(word, k);
            case 10: case 11: return fens.correction(word, k, place);
            case 12: return fens.nearest(word);
            case 13: return fens.trieNodes();
            case 14: return fens.trieReached(word, k);
            case 15: return fens.rows(word, k);
            case 16: return fens.treeNodes();
            case 17: return fens.treeDepth(word);
            case 18: return fens.treeParent(word);
            case 19: return fens.treeCompared(word, k);
            case 20: return fens.neighbourhood(word, k);
            default: return k % 2 == 0 ? fens.candidates(word, place) : fens.falseCandidates(word, place);
        }
    }

    private long due(int kind, String one, String other, int k, int place) {
        switch (kind) {
            case 0: case 1: return model.add(one, occurrences(k, place));
            case 2: return place % 3 == 0 ? model.forget(one) : model.count(one);
            case 3: return model.words();
            case 4: return model.count(one);
            case 5: return Check.word(model.wordAt(place));
            case 6: return model.distance(one, other);
            case 7: return model.price(one, other);
            case 8: return model.areNeighbours(one.charAt(0), other.charAt(0)) ? 1 : 0;
            case 9: return model.corrections(one, k).size();
            case 10: case 11: return Check.word(model.correction(one, k, place));
            case 12: return model.nearest(one);
            case 13: return model.trieNodes();
            case 14: return model.trieReached(one, k);
            case 15: return model.rows(one, k);
            case 16: return model.treeNodes();
            case 17: return model.treeDepth(one);
            case 18: return model.treeParent(one) == null ? -1 : Check.word(model.treeParent(one));
            case 19: return model.treeCompared(one, k);
            case 20: checkWithinTwo(k); return model.neighbourhood(one, k);
            default: checkWithinTwo(place);
                return k % 2 == 0 ? model.candidates(one, place) : model.falseCandidates(one, place);
        }
    }

    private static int occurrences(int k, int place) {
        return 1 + Math.floorMod(place * 3, 7) + (k == 3 ? 990 : 2);
    }

    private static void checkWithinTwo(int k) {
        if (k < 0 || k > 2) {
            throw new IllegalArgumentException();
        }
    }

    private static void compare(String said, LongSupplier answer, LongSupplier due) {
        long want = 0;
        RuntimeException wanted = null;
        try {
            want = due.getAsLong();
        } catch (RuntimeException e) {
            wanted = e;
        }
        if (wanted == null) {
            Check.due(said, answer, want);
        } else if (wanted instanceof IllegalArgumentException) {
            Check.illegal(said, () -> answer.getAsLong());
        } else if (wanted instanceof IllegalStateException) {
            Check.badState(said, () -> answer.getAsLong());
        } else {
            Check.noPlace(said, () -> answer.getAsLong());
        }
    }

    private String made(String alphabet, int longest) {
        int length = 1 + next(longest);
        StringBuilder letters = new StringBuilder();
        for (int i = 0; i < length; i++) {
            letters.append(alphabet.charAt(next(alphabet.length())));
        }
        return letters.toString();
    }

    private String altered(String word, String alphabet) {
        StringBuilder letters = new StringBuilder(word);
        int changes = 1 + next(3);
        for (int i = 0; i < changes; i++) {
            int place = next(letters.length());
            char letter = alphabet.charAt(next(alphabet.length()));
            switch (next(5)) {
                case 0: letters.setCharAt(place, letter); break;
                case 1: letters.insert(place, letter); break;
                case 2: letters.insert(place, letters.charAt(place)); break;
                case 3: letters.deleteCharAt(place); break;
                default: letters.append(letters.charAt(place)).deleteCharAt(place); break;
            }
            if (letters.length() == 0) {
                letters.append(letter);
            }
        }
        return letters.substring(0, Math.min(10, letters.length()));
    }

    /** The same numbers in each run of the test, so that a fault shows each time. */
    private int next(int bound) {
        state = state * 6364136223846793005L + 1442695040888963407L;
        return (int) ((state >>> 33) % bound);
    }
}
