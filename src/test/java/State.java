import java.util.List;

/** What the calls tell of an object, so that it can be seen whether a call changed it; some 400 calls at most. */
final class State {
    private State() {
    }

    static String of(FuzzyFens fens, List<String> watched) {
        StringBuilder told = new StringBuilder();
        told.append("words ").append(fens.words()).append(", tree ").append(fens.treeNodes());
        told.append(", trie ").append(fens.trieNodes()).append(':');
        for (int i = 0; i < fens.words(); i++) {
            told.append(' ').append(fens.wordAt(i));
        }
        for (String one : watched) {
            long word = Check.word(one);
            told.append("; ").append(one).append(' ').append(fens.count(word));
            told.append(' ').append(fens.treeDepth(word)).append(' ').append(fens.treeParent(word));
        }
        append(told, fens, Check.word(watched.get(0)));
        append(told, fens, Check.word(watched.get(watched.size() - 1)));
        return told.toString();
    }

    private static void append(StringBuilder told, FuzzyFens fens, long typed) {
        told.append("; nearest ").append(fens.nearest(typed));
        for (int k = 0; k <= 3; k++) {
            told.append(", ").append(fens.trieReached(typed, k)).append(' ').append(fens.rows(typed, k));
            told.append(' ').append(fens.treeCompared(typed, k));
        }
        for (int k = 0; k <= 2; k++) {
            told.append(", ").append(fens.candidates(typed, k)).append(' ').append(fens.falseCandidates(typed, k));
        }
        int corrections = fens.corrections(typed, 3);
        for (int place = 0; place < corrections; place++) {
            told.append(' ').append(fens.correction(typed, 3, place));
        }
    }
}
