/** A spelling finder; ../shared/DOC.md says what each call answers and when it throws. */
public final class FuzzyFens {
    public static final int NONE = -1;

    private static final int LETTERS = 26;
    private static final int MOST_LETTERS = 10;
    private static final int MOST_WORDS = 40;
    private static final int MOST_OCCURRENCES = 1000;
    private static final int HIGHEST_COUNT = 1000000;
    private static final int WIDEST_SEARCH = 3;
    private static final int MOST_DELETIONS = 2;
    /** The word itself, and what is left without one or two of its letters. */
    private static final int MOST_SEQUENCES = 1 + MOST_LETTERS + MOST_LETTERS * (MOST_LETTERS - 1) / 2;
    /** The root, and a node for each letter of each word. */
    private static final int MOST_TRIE_NODES = 1 + MOST_WORDS * MOST_LETTERS;

    private final Gauge gauge = new Gauge();
    private final Tree tree = new Tree();
    private final Trie trie = new Trie();
    private final Shelf knownWords = new Shelf();
    private final Shelf ranked = new Shelf();
    private final NumberSet sequences = new NumberSet(MOST_SEQUENCES);

    public FuzzyFens() {
    }

    // ---- words

    public int add(long word, int occurrences) throws IllegalArgumentException, IllegalStateException {
        Word added = wordOf(word);
        checkWithin(occurrences, 1, MOST_OCCURRENCES);
        Entry entry = tree.find(added);
        if (entry == null && tree.isFull()) {
            throw new IllegalStateException("as many words as there may be have been added");
        }
        if (entry != null && entry.occurrences + occurrences > HIGHEST_COUNT) {
            throw new IllegalStateException("the count would be too high");
        }
        if (entry == null) {
            entry = tree.plant(gauge, added);
        }
        if (entry.occurrences == 0) {
            knownWords.insertAlphabetically(entry);
        }
        entry.occurrences += occurrences;
        return entry.occurrences;
    }

    public int forget(long word) throws IllegalArgumentException, IllegalStateException {
        Entry entry = tree.find(wordOf(word));
        if (entry == null || entry.occurrences == 0) {
            throw new IllegalStateException("the word is not known");
        }
        int before = entry.occurrences;
        knownWords.remove(entry);
        entry.occurrences = 0;
        return before;
    }

    public int words() {
        return knownWords.size();
    }

    public int count(long word) throws IllegalArgumentException {
        Entry entry = tree.find(wordOf(word));
        return entry == null ? 0 : entry.occurrences;
    }

    public long wordAt(int place) throws IndexOutOfBoundsException {
        return numberAt(knownWords, place);
    }

    // ---- distances and prices

    public int distance(long word, long other) throws IllegalArgumentException {
        return gauge.lettersApart(wordOf(word), wordOf(other));
    }

    public int price(long typed, long known) throws IllegalArgumentException {
        return gauge.cheapest(wordOf(typed), wordOf(known));
    }

    public boolean areNeighbours(int letter, int other) throws IllegalArgumentException {
        checkWithin(letter, 1, LETTERS);
        checkWithin(other, 1, LETTERS);
        return Keyboard.areBeside(letter, other);
    }

    // ---- corrections

    public int corrections(long typed, int k) throws IllegalArgumentException {
        Word sought = wordOf(typed);
        checkWithin(k, 0, WIDEST_SEARCH);
        rank(sought, k);
        return ranked.size();
    }

    public long correction(long typed, int k, int place) throws IllegalArgumentException, IndexOutOfBoundsException {
        Word sought = wordOf(typed);
        checkWithin(k, 0, WIDEST_SEARCH);
        rank(sought, k);
        return numberAt(ranked, place);
    }

    public int nearest(long typed) throws IllegalArgumentException {
        Word sought = wordOf(typed);
        int least = NONE;
        for (int i = 0; i < knownWords.size(); i++) {
            Entry entry = knownWords.at(i);
            if (entry != null) {
                int apart = gauge.lettersApart(entry.word, sought);
                least = least == NONE ? apart : Math.min(least, apart);
            }
        }
        return least;
    }

    // ---- trie and automaton

    public int trieNodes() {
        return Trie.nodesOf(knownWords);
    }

    public int trieReached(long typed, int k) throws IllegalArgumentException {
        Word sought = wordOf(typed);
        checkWithin(k, 0, WIDEST_SEARCH);
        return trie.reach(gauge, knownWords, sought, k);
    }

    public int rows(long typed, int k) throws IllegalArgumentException {
        Word sought = wordOf(typed);
        checkWithin(k, 0, WIDEST_SEARCH);
        trie.reach(gauge, knownWords, sought, k);
        return trie.rowsSeen();
    }

    // ---- tree

    public int treeNodes() {
        return tree.size();
    }

    public int treeDepth(long word) throws IllegalArgumentException {
        Entry entry = tree.find(wordOf(word));
        return entry == null ? NONE : entry.depth;
    }

    public long treeParent(long word) throws IllegalArgumentException {
        Entry entry = tree.find(wordOf(word));
        if (entry == null || entry.parent == null) {
            return NONE;
        }
        return entry.parent.word.number;
    }

    public int treeCompared(long typed, int k) throws IllegalArgumentException {
        Word sought = wordOf(typed);
        checkWithin(k, 0, WIDEST_SEARCH);
        return tree.search(gauge, sought, k);
    }

    // ---- deletion neighbourhoods

    public int neighbourhood(long word, int k) throws IllegalArgumentException {
        Word whole = wordOf(word);
        checkWithin(k, 0, MOST_DELETIONS);
        sequences.clear();
        collectSequences(whole, k);
        return sequences.size();
    }

    public int candidates(long typed, int k) throws IllegalArgumentException {
        Word sought = wordOf(typed);
        checkWithin(k, 0, MOST_DELETIONS);
        int found = 0;
        for (int i = 0; i < knownWords.size(); i++) {
            if (isCandidate(knownWords.at(i), sought, k)) {
                found++;
            }
        }
        return found;
    }

    public int falseCandidates(long typed, int k) throws IllegalArgumentException {
        Word sought = wordOf(typed);
        checkWithin(k, 0, MOST_DELETIONS);
        int found = 0;
        for (int i = 0; i < knownWords.size(); i++) {
            Entry entry = knownWords.at(i);
            if (isCandidate(entry, sought, k) && !isCorrection(entry, sought, k)) {
                found++;
            }
        }
        return found;
    }

    private static Word wordOf(long number) {
        if (!Word.isSpelledBy(number)) {
            throw new IllegalArgumentException("the number is no word");
        }
        return new Word(number);
    }

    private static void checkWithin(int value, int least, int greatest) {
        if (value < least || value > greatest) {
            throw new IllegalArgumentException("an argument is out of range");
        }
    }

    private static long numberAt(Shelf shelf, int place) {
        Entry entry = shelf.at(place);
        if (entry == null) {
            throw new IndexOutOfBoundsException("there is no such place");
        }
        return entry.word.number;
    }

    private void rank(Word typed, int k) {
        ranked.clear();
        for (int i = 0; i < knownWords.size(); i++) {
            Entry entry = knownWords.at(i);
            if (entry != null && isCorrection(entry, typed, k)) {
                entry.priceToRank = gauge.cheapest(typed, entry.word);
                ranked.insertByRank(entry);
            }
        }
    }

    private boolean isCorrection(Entry entry, Word typed, int k) {
        return entry != null && gauge.lettersApart(entry.word, typed) <= k;
    }

    /**
     * A common sequence of the neighbourhoods is a common subsequence that is at most k letters shorter
     * than either word, so it is enough to look at the longest common one and the longer word.
     */
    private boolean isCandidate(Entry entry, Word typed, int k) {
        if (entry == null) {
            return false;
        }
        int longer = Math.max(entry.word.length, typed.length);
        return longer - gauge.lettersShared(entry.word, typed) <= k;
    }

    private void collectSequences(Word word, int k) {
        sequences.put(word.number);
        for (int first = 0; k >= 1 && first < word.length; first++) {
            long shorter = Word.without(word.number, first);
            sequences.put(shorter);
            // The places count from the right end, so those below the first one are not moved by its deletion.
            for (int second = 0; k >= 2 && second < first; second++) {
                sequences.put(Word.without(shorter, second));
            }
        }
    }

    /** A word as the face passes it: five bits for each letter, the last letter in the lowest ones. */
    private static final class Word {
        private static final int BITS = 5;
        private static final long MASK = 31;

        private final long number;
        private final int length;

        /** Orders like the words: the first letters stand at the same bits, and no letter is below a. */
        private final long alphabetical;

        Word(long number) {
            this.number = number;
            this.length = lengthOf(number);
            this.alphabetical = number << (BITS * (MOST_LETTERS - length));
        }

        static boolean isSpelledBy(long number) {
            long rest = number;
            for (int i = 0; i < MOST_LETTERS && rest > 0; i++) {
                long letter = rest & MASK;
                if (letter < 1 || letter > LETTERS) {
                    return false;
                }
                rest = rest >>> BITS;
            }
            return number > 0 && rest == 0;
        }

        /** The sequence that is left without one of the letters, whose place counts from the right end. */
        static long without(long sequence, int place) {
            int bitsBehind = BITS * place;
            long ahead = sequence >>> (bitsBehind + BITS);
            long behind = sequence & ((1L << bitsBehind) - 1);
            return (ahead << bitsBehind) | behind;
        }

        /** The letter at a place from the left end; 0 ahead of the first one and behind the last one. */
        int letterAt(int place) {
            if (place < 0 || place >= length) {
                return 0;
            }
            int bitsBehind = BITS * (length - 1 - place);
            return (int) ((number >>> bitsBehind) & MASK);
        }

        int beginningSharedWith(Word other) {
            int shared = 0;
            while (shared < length && letterAt(shared) == other.letterAt(shared)) {
                shared++;
            }
            return shared;
        }

        private static int lengthOf(long number) {
            int length = 0;
            for (long rest = number; length < MOST_LETTERS && rest > 0; rest = rest >>> BITS) {
                length++;
            }
            return length;
        }
    }

    private static final class Keyboard {
        /** The row of the key of each letter from a to z, the uppermost row being 0. */
        private static final int[] ROWS = {
            1, 2, 2, 1, 0, 1, 1, 1, 0, 1, 1, 1, 2, 2, 0, 0, 0, 0, 1, 0, 0, 2, 0, 2, 0, 2
        };
        /** The number of the key of each letter from a to z in its row. */
        private static final int[] PLACES = {
            0, 4, 2, 2, 2, 3, 4, 5, 7, 6, 7, 8, 6, 5, 8, 9, 0, 3, 1, 4, 6, 3, 1, 1, 5, 0
        };

        static boolean areBeside(int letter, int other) {
            int down = at(ROWS, other) - at(ROWS, letter);
            int right = at(PLACES, other) - at(PLACES, letter);
            if (down == 0) {
                return right == 1 || right == -1;
            }
            if (down == 1) {
                return right == 0 || right == -1;
            }
            return down == -1 && (right == 0 || right == 1);
        }

        private static int at(int[] keys, int letter) {
            return letter >= 1 && letter <= keys.length ? keys[letter - 1] : NONE;
        }
    }

    /** Numbers for each beginning of one word and each beginning of another one. */
    private static final class Grid {
        private static final int SIDE = MOST_LETTERS + 1;

        private final int[] cells = new int[SIDE * SIDE];

        int at(int row, int column) {
            return isInside(row, column) ? cells[row * SIDE + column] : 0;
        }

        void put(int row, int column, int value) {
            if (isInside(row, column)) {
                cells[row * SIDE + column] = value;
            }
        }

        private static boolean isInside(int row, int column) {
            return row >= 0 && row < SIDE && column >= 0 && column < SIDE;
        }
    }

    /** Compares two words by their beginnings, in one grid that all comparisons use again. */
    private static final class Gauge {
        private static final int BY_NEIGHBOUR = 1;
        private static final int BY_STRANGER = 3;
        private static final int INSERTED = 2;
        private static final int DELETED = 2;
        private static final int DELETED_DOUBLE = 1;
        private static final int EXCHANGED = 1;

        private final Grid grid = new Grid();

        int lettersApart(Word word, Word other) {
            startRows(other);
            for (int row = 1; row <= word.length; row++) {
                fillRow(row, word.letterAt(row - 1), other);
            }
            return grid.at(word.length, other.length);
        }

        /** Fills the row of the empty beginning; the rows for longer ones build on it. */
        void startRows(Word other) {
            for (int column = 0; column <= other.length; column++) {
                grid.put(0, column, column);
            }
        }

        /** Fills the row of the beginning whose last letter is given, from the row of the one before. */
        void fillRow(int row, int letter, Word other) {
            grid.put(row, 0, row);
            for (int column = 1; column <= other.length; column++) {
                int replaced = grid.at(row - 1, column - 1) + (letter == other.letterAt(column - 1) ? 0 : 1);
                int inserted = grid.at(row, column - 1) + 1;
                int deleted = grid.at(row - 1, column) + 1;
                grid.put(row, column, Math.min(replaced, Math.min(inserted, deleted)));
            }
        }

        int leastInRow(int row, Word other) {
            int least = grid.at(row, 0);
            for (int column = 1; column <= other.length; column++) {
                least = Math.min(least, grid.at(row, column));
            }
            return least;
        }

        /** One number for a whole row: three bits hold any number up to the cap, which is at most k + 1. */
        long packedRow(int row, Word other, int cap) {
            long packed = 0;
            for (int column = 0; column <= other.length; column++) {
                packed = (packed << 3) | Math.min(grid.at(row, column), cap);
            }
            return packed;
        }

        /** The length of the longest common subsequence. */
        int lettersShared(Word word, Word other) {
            for (int row = 0; row <= word.length; row++) {
                for (int column = 0; column <= other.length; column++) {
                    grid.put(row, column, mostShared(word, other, row, column));
                }
            }
            return grid.at(word.length, other.length);
        }

        int cheapest(Word typed, Word known) {
            for (int row = 0; row <= typed.length; row++) {
                for (int column = 0; column <= known.length; column++) {
                    grid.put(row, column, leastPrice(typed, known, row, column));
                }
            }
            return grid.at(typed.length, known.length);
        }

        private int mostShared(Word word, Word other, int row, int column) {
            if (row == 0 || column == 0) {
                return 0;
            }
            if (word.letterAt(row - 1) == other.letterAt(column - 1)) {
                return grid.at(row - 1, column - 1) + 1;
            }
            return Math.max(grid.at(row - 1, column), grid.at(row, column - 1));
        }

        private int leastPrice(Word typed, Word known, int row, int column) {
            if (row == 0) {
                return column * INSERTED;
            }
            int least = grid.at(row - 1, column) + deletionPrice(typed, row - 1);
            if (column >= 1) {
                int replaced = replacementPrice(typed.letterAt(row - 1), known.letterAt(column - 1));
                least = Math.min(least, grid.at(row, column - 1) + INSERTED);
                least = Math.min(least, grid.at(row - 1, column - 1) + replaced);
            }
            if (column >= 2 && row >= 2 && areExchanged(typed, known, row, column)) {
                least = Math.min(least, grid.at(row - 2, column - 2) + EXCHANGED);
            }
            return least;
        }

        private static int deletionPrice(Word typed, int place) {
            return typed.letterAt(place) == typed.letterAt(place - 1) ? DELETED_DOUBLE : DELETED;
        }

        private static int replacementPrice(int letter, int other) {
            if (letter == other) {
                return 0;
            }
            return Keyboard.areBeside(letter, other) ? BY_NEIGHBOUR : BY_STRANGER;
        }

        private static boolean areExchanged(Word typed, Word known, int row, int column) {
            int left = typed.letterAt(row - 2);
            int right = typed.letterAt(row - 1);
            return left != right && left == known.letterAt(column - 1) && right == known.letterAt(column - 2);
        }
    }

    /** A word that has been added: its count and its node in the tree. */
    private static final class Entry {
        private final Word word;
        private final Entry parent;
        private final int childNumber;
        private final int depth;
        private int occurrences;

        /** These hold only from the search or the ranking that writes them to the next one. */
        private boolean isCompared;
        private int lettersFromTyped;
        private int priceToRank;

        Entry(Word word, Entry parent, int childNumber) {
            this.word = word;
            this.parent = parent;
            this.childNumber = childNumber;
            this.depth = parent == null ? 0 : parent.depth + 1;
        }

        boolean ranksAhead(Entry other) {
            if (priceToRank != other.priceToRank) {
                return priceToRank < other.priceToRank;
            }
            if (occurrences != other.occurrences) {
                return occurrences > other.occurrences;
            }
            return standsAhead(other);
        }

        boolean standsAhead(Entry other) {
            return word.alphabetical < other.word.alphabetical;
        }
    }

    /** Entries in an order, as many as there may be at most. */
    private static final class Shelf {
        private final Entry[] entries = new Entry[MOST_WORDS];
        private int size;

        int size() {
            return size;
        }

        void clear() {
            size = 0;
        }

        /** The entry at a place; null if there is no such place. */
        Entry at(int place) {
            return place >= 0 && place < size && place < entries.length ? entries[place] : null;
        }

        void append(Entry entry) {
            insert(size, entry);
        }

        void insertAlphabetically(Entry entry) {
            int place = 0;
            for (int i = 0; i < size; i++) {
                Entry other = at(i);
                if (other != null && other.standsAhead(entry)) {
                    place++;
                }
            }
            insert(place, entry);
        }

        void insertByRank(Entry entry) {
            int place = 0;
            for (int i = 0; i < size; i++) {
                Entry other = at(i);
                if (other != null && other.ranksAhead(entry)) {
                    place++;
                }
            }
            insert(place, entry);
        }

        void remove(Entry entry) {
            int kept = 0;
            for (int i = 0; i < size && i < entries.length; i++) {
                if (entries[i] != entry) {
                    entries[kept] = entries[i];
                    kept++;
                }
            }
            size = kept;
        }

        private void insert(int place, Entry entry) {
            if (place < 0 || place > size || size >= entries.length) {
                return;
            }
            for (int i = size; i > place; i--) {
                entries[i] = entries[i - 1];
            }
            entries[place] = entry;
            size++;
        }
    }

    /** The tree of all words that have ever been added, in the order in which they were added first. */
    private static final class Tree {
        private final Shelf nodes = new Shelf();

        int size() {
            return nodes.size();
        }

        boolean isFull() {
            return nodes.size() >= MOST_WORDS;
        }

        Entry find(Word word) {
            for (int i = 0; i < nodes.size(); i++) {
                Entry node = nodes.at(i);
                if (node != null && node.word.number == word.number) {
                    return node;
                }
            }
            return null;
        }

        /** Puts in a word that is not there, and answers its new node. */
        Entry plant(Gauge gauge, Word word) {
            Entry parent = null;
            Entry next = nodes.at(0);
            int apart = 0;
            for (int i = 0; i < MOST_WORDS && next != null; i++) {
                parent = next;
                apart = gauge.lettersApart(parent.word, word);
                next = child(parent, apart);
            }
            Entry node = new Entry(word, parent, apart);
            nodes.append(node);
            return node;
        }

        /**
         * Answers with how many words a search compares. A parent stands ahead of its children, so one
         * pass in the order of adding meets each node after it is known whether its parent is compared.
         */
        int search(Gauge gauge, Word typed, int k) {
            int compared = 0;
            for (int i = 0; i < nodes.size(); i++) {
                Entry node = nodes.at(i);
                if (node != null) {
                    node.isCompared = isEntered(node, k);
                    if (node.isCompared) {
                        node.lettersFromTyped = gauge.lettersApart(node.word, typed);
                        compared++;
                    }
                }
            }
            return compared;
        }

        private static boolean isEntered(Entry node, int k) {
            Entry parent = node.parent;
            if (parent == null) {
                return true;
            }
            return parent.isCompared && Math.abs(node.childNumber - parent.lettersFromTyped) <= k;
        }

        private Entry child(Entry parent, int childNumber) {
            for (int i = 0; i < nodes.size(); i++) {
                Entry node = nodes.at(i);
                if (node != null && node.parent == parent && node.childNumber == childNumber) {
                    return node;
                }
            }
            return null;
        }
    }

    /**
     * The trie of the known words. It is not held: in alphabetical order the words with a common beginning
     * stand together, so a word brings just the nodes that it does not share with the word before it.
     */
    private static final class Trie {
        private final NumberSet packedRows = new NumberSet(MOST_TRIE_NODES);

        static int nodesOf(Shelf known) {
            int nodes = 1;
            for (int i = 0; i < known.size(); i++) {
                Entry entry = known.at(i);
                if (entry != null) {
                    nodes += entry.word.length - lettersPassed(known, i);
                }
            }
            return nodes;
        }

        /** Answers how many nodes are reached, and keeps their rows for rowsSeen. */
        int reach(Gauge gauge, Shelf known, Word typed, int k) {
            packedRows.clear();
            gauge.startRows(typed);
            int reached = visit(gauge, 0, typed, k);
            for (int i = 0; i < known.size(); i++) {
                Entry entry = known.at(i);
                if (entry != null) {
                    reached += reachAlong(gauge, entry.word, lettersPassed(known, i), typed, k);
                }
            }
            return reached;
        }

        int rowsSeen() {
            return packedRows.size();
        }

        /** The rows of the beginnings that the word before has too still stand in the gauge. */
        private int reachAlong(Gauge gauge, Word word, int passed, Word typed, int k) {
            int reached = 0;
            for (int depth = passed + 1; depth <= word.length; depth++) {
                gauge.fillRow(depth, word.letterAt(depth - 1), typed);
                reached += visit(gauge, depth, typed, k);
            }
            return reached;
        }

        private int visit(Gauge gauge, int depth, Word typed, int k) {
            if (gauge.leastInRow(depth, typed) > k) {
                return 0;
            }
            packedRows.put(gauge.packedRow(depth, typed, k + 1));
            return 1;
        }

        private static int lettersPassed(Shelf known, int place) {
            Entry before = known.at(place - 1);
            Entry entry = known.at(place);
            if (before == null || entry == null) {
                return 0;
            }
            return entry.word.beginningSharedWith(before.word);
        }
    }

    private static final class NumberSet {
        private final long[] numbers;
        private int size;

        NumberSet(int most) {
            numbers = new long[most > 0 ? most : 0];
        }

        int size() {
            return size;
        }

        void clear() {
            size = 0;
        }

        void put(long number) {
            if (size < numbers.length && !holds(number)) {
                numbers[size] = number;
                size++;
            }
        }

        private boolean holds(long number) {
            for (int i = 0; i < size && i < numbers.length; i++) {
                if (numbers[i] == number) {
                    return true;
                }
            }
            return false;
        }
    }
}
