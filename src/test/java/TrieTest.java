/** Promises 13 to 15: trieNodes, trieReached, rows. */
public final class TrieTest {
    public static void main(String[] args) {
        nodes();
        reached();
        rows();
        theFullTrie();
        wrongInputs();
        Check.finish();
    }

    private static void nodes() {
        FuzzyFens fens = new FuzzyFens();
        Check.due("trieNodes()", fens.trieNodes(), 1);
        fens.add(Check.word("fen"), 1);
        Check.due("trieNodes() with fen", fens.trieNodes(), 4);
        fens.add(Check.word("fens"), 1);
        Check.due("trieNodes() with fens", fens.trieNodes(), 5);
        fens.add(Check.word("fe"), 1);
        Check.due("trieNodes() with fe", fens.trieNodes(), 5);
        fens.add(Check.word("fan"), 1);
        Check.due("trieNodes() with fan", fens.trieNodes(), 7);
        fens.add(Check.word("en"), 1);
        Check.due("trieNodes() with en", fens.trieNodes(), 9);
        fens.add(Check.word("fan"), 1);
        Check.due("trieNodes() with fan twice", fens.trieNodes(), 9);
        fens.forget(Check.word("fen"));
        Check.due("trieNodes() without fen", fens.trieNodes(), 9);
        fens.forget(Check.word("fens"));
        Check.due("trieNodes() without fens", fens.trieNodes(), 7);
        fens.forget(Check.word("fe"));
        Check.due("trieNodes() without fe", fens.trieNodes(), 6);
        fens.forget(Check.word("fan"));
        fens.forget(Check.word("en"));
        Check.due("trieNodes() without words", fens.trieNodes(), 1);
    }

    private static void reached() {
        FuzzyFens fens = new FuzzyFens();
        checkReached(fens, "fen", 1, 1, 1, 1);
        fens.add(Check.word("fen"), 1);
        // The rows of "", f, fe and fen for fen: 0123, 1012, 2101, 3210.
        checkReached(fens, "fen", 4, 4, 4, 4);
        // For x: 01, 11, 22, 33.
        checkReached(fens, "x", 1, 2, 3, 4);
        // For f: 01, 10, 21, 32.
        checkReached(fens, "f", 2, 3, 4, 4);
        fens.add(Check.word("fin"), 1);
        fens.add(Check.word("zzzzzzzzzz"), 1);
        // Four for fin itself; fe, fen and z have a 1, zz has a 2, zzz a 3, and zzzz 4 alone.
        checkReached(fens, "fin", 4, 7, 8, 9);
        fens.forget(Check.word("fen"));
        checkReached(fens, "fin", 4, 4 + 1, 4 + 2, 4 + 3);
    }

    private static void rows() {
        FuzzyFens fens = new FuzzyFens();
        checkRows(fens, "fen", 1, 1, 1, 1);
        fens.add(Check.word("fen"), 1);
        checkRows(fens, "fen", 4, 4, 4, 4);
        // For x, capped at k + 1: 01; 01, 11; 01, 11, 22; 01, 11, 22, 33.
        checkRows(fens, "x", 1, 2, 3, 4);
        fens.add(Check.word("fan"), 1);
        fens.add(Check.word("fun"), 1);
        // fa and fu, fan and fun have the same rows as fe and fen for x.
        checkRows(fens, "x", 1, 2, 3, 4);
        checkReached(fens, "x", 1, 2, 5, 8);
        // For fen, fa and fu have the row 2 1 1 2, fan and fun the row 3 2 2 1.
        checkRows(fens, "fen", 4, 6, 6, 6);
        // The rows of "", a, ax, b and by: 012345, 101234, 211234, 111234, 222234.
        checkRows(Check.knowing("ax", "by"), "abcde", 2, 4, 5, 5);
        // The row of j ends with 8 9 9, that of x with 8 9 10: the same, if they are capped.
        FuzzyFens capped = Check.knowing("j", "x");
        checkReached(capped, "abcdefghij", 1, 3, 3, 3);
        checkRows(capped, "abcdefghij", 1, 2, 2, 2);
        // The rows of c and x are 1122 and 1123: the same for k = 1, as 3 is capped at 2 there, and not for k = 2.
        checkRows(Check.knowing("c", "x"), "abc", 1, 2, 3, 3);
        // The rows of b and x are 111 and 112: the last number alone tells them apart.
        checkRows(Check.knowing("b", "x"), "ab", 1, 3, 3, 3);
    }

    private static void theFullTrie() {
        FuzzyFens fens = new FuzzyFens();
        for (int i = 0; i < 40; i++) {
            fens.add(Check.word(Check.numbered(i * 16, 2) + "aaaaaaaa"), 1);
        }
        Check.due("trieNodes()", fens.trieNodes(), 1 + 25 + 40 * 9);
        Check.due("trieReached(aaaaaaaaaa, 3)", fens.trieReached(Check.word("aaaaaaaaaa"), 3), 1 + 25 + 40 * 9);
    }

    private static void wrongInputs() {
        FuzzyFens fens = Check.knowing("fen");
        long fen = Check.word("fen");
        for (long number : Check.NO_WORDS) {
            Check.illegal("trieReached(" + number + ", 1)", () -> fens.trieReached(number, 1));
            Check.illegal("rows(" + number + ", 1)", () -> fens.rows(number, 1));
        }
        for (int bad : new int[] {-1, 4, Integer.MAX_VALUE, Integer.MIN_VALUE}) {
            Check.illegal("trieReached(fen, " + bad + ")", () -> fens.trieReached(fen, bad));
            Check.illegal("rows(fen, " + bad + ")", () -> fens.rows(fen, bad));
        }
    }

    private static void checkReached(FuzzyFens fens, String typed, int... due) {
        for (int k = 0; k < due.length; k++) {
            Check.due("trieReached(" + typed + ", " + k + ")", fens.trieReached(Check.word(typed), k), due[k]);
        }
    }

    private static void checkRows(FuzzyFens fens, String typed, int... due) {
        for (int k = 0; k < due.length; k++) {
            Check.due("rows(" + typed + ", " + k + ")", fens.rows(Check.word(typed), k), due[k]);
        }
    }
}
