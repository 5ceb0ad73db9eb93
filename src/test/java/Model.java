import java.util.ArrayList;
import java.util.Comparator;
import java.util.HashMap;
import java.util.HashSet;
import java.util.List;
import java.util.Map;
import java.util.Set;
import java.util.TreeMap;

/** The document once more, as plainly as can be, with texts and the library's collections. */
final class Model {
    private static final String[] KEYS = {"qwertyuiop", "asdfghjkl", "zxcvbnm"};

    private final TreeMap<String, Integer> counts = new TreeMap<>();
    private final Map<String, Node> nodes = new HashMap<>();
    private final Map<String, Integer> distances = new HashMap<>();
    private Node root;

    private static final class Node {
        final String word;
        final Node parent;
        final Map<Integer, Node> children = new HashMap<>();

        Node(String word, Node parent) {
            this.word = word;
            this.parent = parent;
        }
    }

    int add(String word, int occurrences) {
        int count = count(word) + occurrences;
        if (!nodes.containsKey(word) && nodes.size() >= 40 || count > 1000000) {
            throw new IllegalStateException();
        }
        if (!nodes.containsKey(word)) {
            plant(word);
        }
        counts.put(word, count);
        return count;
    }

    int forget(String word) {
        if (!counts.containsKey(word)) {
            throw new IllegalStateException();
        }
        return counts.remove(word);
    }

    int words() {
        return counts.size();
    }

    int count(String word) {
        return counts.getOrDefault(word, 0);
    }

    String wordAt(int place) {
        return at(new ArrayList<>(counts.keySet()), place);
    }

    int distance(String one, String other) {
        if (one.isEmpty() || other.isEmpty()) {
            return one.length() + other.length();
        }
        String pair = one + " " + other;
        Integer held = distances.get(pair);
        if (held != null) {
            return held;
        }
        String oneRest = one.substring(1);
        String otherRest = other.substring(1);
        int least = distance(oneRest, otherRest) + (one.charAt(0) == other.charAt(0) ? 0 : 1);
        least = Math.min(least, 1 + Math.min(distance(oneRest, other), distance(one, otherRest)));
        distances.put(pair, least);
        return least;
    }

    int price(String typed, String known) {
        return price(typed, 0, known, 0, new HashMap<>());
    }

    boolean areNeighbours(char one, char other) {
        return touches(one, other) || touches(other, one);
    }

    List<String> corrections(String typed, int k) {
        List<String> found = new ArrayList<>();
        for (String word : counts.keySet()) {
            if (distance(word, typed) <= k) {
                found.add(word);
            }
        }
        Comparator<String> order = Comparator.comparingInt((String word) -> price(typed, word))
            .thenComparing(word -> -count(word)).thenComparing(Comparator.naturalOrder());
        found.sort(order);
        return found;
    }

    String correction(String typed, int k, int place) {
        return at(corrections(typed, k), place);
    }

    int nearest(String typed) {
        return counts.keySet().stream().mapToInt(word -> distance(word, typed)).min().orElse(-1);
    }

    int trieNodes() {
        return beginnings().size();
    }

    int trieReached(String typed, int k) {
        return reachedRows(typed, k).size();
    }

    int rows(String typed, int k) {
        return new HashSet<>(reachedRows(typed, k)).size();
    }

    int treeNodes() {
        return nodes.size();
    }

    int treeDepth(String word) {
        int depth = -1;
        for (Node node = nodes.get(word); node != null; node = node.parent) {
            depth++;
        }
        return depth;
    }

    String treeParent(String word) {
        Node node = nodes.get(word);
        return node == null || node.parent == null ? null : node.parent.word;
    }

    int treeCompared(String typed, int k) {
        return root == null ? 0 : compared(root, typed, k);
    }

    int neighbourhood(String word, int k) {
        return sequences(word, k).size();
    }

    int candidates(String typed, int k) {
        return found(typed, k).size();
    }

    int falseCandidates(String typed, int k) {
        List<String> found = found(typed, k);
        found.removeAll(corrections(typed, k));
        return found.size();
    }

    private static String at(List<String> words, int place) {
        if (place < 0 || place >= words.size()) {
            throw new IndexOutOfBoundsException();
        }
        return words.get(place);
    }

    private void plant(String word) {
        Node node = root;
        Node parent = null;
        int distance = 0;
        while (node != null) {
            parent = node;
            distance = distance(word, parent.word);
            node = parent.children.get(distance);
        }
        Node planted = new Node(word, parent);
        nodes.put(word, planted);
        if (parent == null) {
            root = planted;
        } else {
            parent.children.put(distance, planted);
        }
    }

    private int price(String typed, int i, String known, int j, Map<Integer, Integer> held) {
        if (i == typed.length() && j == known.length()) {
            return 0;
        }
        Integer before = held.get(i * 100 + j);
        if (before != null) {
            return before;
        }
        int least = Integer.MAX_VALUE;
        if (i < typed.length()) {
            boolean isDouble = i > 0 && typed.charAt(i) == typed.charAt(i - 1);
            least = Math.min(least, (isDouble ? 1 : 2) + price(typed, i + 1, known, j, held));
        }
        if (j < known.length()) {
            least = Math.min(least, 2 + price(typed, i, known, j + 1, held));
        }
        if (i < typed.length() && j < known.length()) {
            char one = typed.charAt(i);
            char other = known.charAt(j);
            int step = one == other ? 0 : areNeighbours(one, other) ? 1 : 3;
            least = Math.min(least, step + price(typed, i + 1, known, j + 1, held));
        }
        if (i + 1 < typed.length() && j + 1 < known.length() && typed.charAt(i) != typed.charAt(i + 1)
                && typed.charAt(i) == known.charAt(j + 1) && typed.charAt(i + 1) == known.charAt(j)) {
            least = Math.min(least, 1 + price(typed, i + 2, known, j + 2, held));
        }
        held.put(i * 100 + j, least);
        return least;
    }

    private static boolean touches(char upper, char lower) {
        for (int row = 0; row < 3; row++) {
            int place = KEYS[row].indexOf(upper);
            for (int i = 0; i < KEYS[row].length() && place >= 0; i++) {
                if (KEYS[row].charAt(i) == lower && i == place + 1) {
                    return true;
                }
            }
            for (int i = 0; row < 2 && i < KEYS[row + 1].length() && place >= 0; i++) {
                if (KEYS[row + 1].charAt(i) == lower && (i == place || i == place - 1)) {
                    return true;
                }
            }
        }
        return false;
    }

    private Set<String> beginnings() {
        Set<String> beginnings = new HashSet<>();
        beginnings.add("");
        for (String word : counts.keySet()) {
            for (int i = 1; i <= word.length(); i++) {
                beginnings.add(word.substring(0, i));
            }
        }
        return beginnings;
    }

    private List<List<Integer>> reachedRows(String typed, int k) {
        List<List<Integer>> reached = new ArrayList<>();
        for (String beginning : beginnings()) {
            List<Integer> row = new ArrayList<>();
            boolean isReached = false;
            for (int i = 0; i <= typed.length(); i++) {
                int number = Math.min(distance(beginning, typed.substring(0, i)), k + 1);
                row.add(number);
                isReached |= number <= k;
            }
            if (isReached) {
                reached.add(row);
            }
        }
        return reached;
    }

    private int compared(Node node, String typed, int k) {
        int compared = 1;
        int distance = distance(typed, node.word);
        for (int number = distance - k; number <= distance + k; number++) {
            Node child = node.children.get(number);
            if (child != null) {
                compared += compared(child, typed, k);
            }
        }
        return compared;
    }

    private static Set<String> sequences(String word, int k) {
        Set<String> sequences = new HashSet<>();
        sequences.add(word);
        for (int i = 0; k > 0 && i < word.length(); i++) {
            sequences.addAll(sequences(word.substring(0, i) + word.substring(i + 1), k - 1));
        }
        return sequences;
    }

    private List<String> found(String typed, int k) {
        List<String> found = new ArrayList<>();
        for (String word : counts.keySet()) {
            Set<String> common = sequences(word, k);
            common.retainAll(sequences(typed, k));
            if (!common.isEmpty()) {
                found.add(word);
            }
        }
        return found;
    }
}
