import java.util.ArrayList;
import java.util.List;
import java.util.function.Consumer;
import java.util.function.Supplier;

/** The terms on exceptions, for each of the promises 2 to 22: which one goes ahead, and that nothing is changed by it. */
public final class RefusalsTest {
    private static final String FIRST = "if several apply, the one that it lists first is thrown";
    private static final String UNCHANGED = "A call that throws changes nothing.";
    private static final Class<? extends RuntimeException> ARGUMENT = IllegalArgumentException.class;
    private static final Class<? extends RuntimeException> STATE = IllegalStateException.class;
    private static final Class<? extends RuntimeException> PLACE = IndexOutOfBoundsException.class;

    private static final long KNOWN = Check.word("mere");
    private static final long FORGOTTEN = Check.word("reed");
    private static final long NEVER = Check.word("sedge");
    private static final long[] NO_WORDS = {0, -1, 27, 32, Check.word("aaaaaaaaaaa"), Long.MAX_VALUE, Long.MIN_VALUE};
    private static final List<String> SOME = List.of("mere", "reed", "marsh", "sedge", "merge", "mud");

    /** A call that is refused, with the promise that says so. */
    private static final class Refused {
        final int promise;
        final String call;
        final Class<? extends RuntimeException> thrown;
        final Consumer<FuzzyFens> run;

        Refused(int promise, String call, Class<? extends RuntimeException> thrown, Consumer<FuzzyFens> run) {
            this.promise = promise;
            this.call = call;
            this.thrown = thrown;
            this.run = run;
        }
    }

    public static void main(String[] args) {
        argumentAheadOfState();
        eachAsItDocuments();
        argumentAheadOfPlace();
        argumentAheadOfAnEmptyObject();
        nothingChangesInAnEmptyObject();
        nothingChangesInAnObjectWithWords();
        nothingChangesInAFullObject();
        nothingChangesByManyRefusals();
        Check.finish();
    }

    private static void argumentAheadOfState() {
        Check.sentence("Terms, promises 2 and 3", FIRST);
        FuzzyFens full = Edges.full();
        for (long number : NO_WORDS) {
            Check.illegal("add(" + number + ", 1) in a full object", () -> full.add(number, 1));
            Check.illegal("add(" + number + ", 0) in a full object", () -> full.add(number, 0));
            Check.illegal("forget(" + number + "), which is not known", () -> full.forget(number));
            Check.illegal("forget(" + number + ") in an empty object", () -> new FuzzyFens().forget(number));
        }
        for (int bad : Edges.outside(1, Edges.MOST_OCCURRENCES)) {
            Check.illegal("add(sedge, " + bad + ") in a full object", () -> full.add(NEVER, bad));
        }
        Check.badState("add(sedge, 1) in a full object", () -> full.add(NEVER, 1));
        Check.badState("add(sedge, 1000) in a full object", () -> full.add(NEVER, 1000));
    }

    private static void eachAsItDocuments() {
        Check.sentence("Terms, promises 2, 3, 6 and 11", "and IndexOutOfBoundsException or IllegalStateException as it documents");
        for (Refused refused : notKnown(3)) {
            FuzzyFens fens = withWords();
            boolean isPlace = refused.promise == 6 || refused.promise == 11;
            Check.throwing(refused.call, isPlace ? PLACE : STATE, () -> refused.run.accept(fens));
        }
        FuzzyFens full = Edges.full();
        Check.badState("add(sedge, 1) in a full object", () -> full.add(NEVER, 1));
        // The others throw neither of them for a word that is not known, nor for one that is forgotten.
        for (long word : new long[] {NEVER, FORGOTTEN}) {
            FuzzyFens fens = withWords();
            Check.due("count", () -> fens.count(word), 0);
            Check.due("corrections", () -> fens.corrections(word, 0), 0);
            Check.due("candidates", () -> fens.candidates(word, 0), 0);
            Check.due("falseCandidates", () -> fens.falseCandidates(word, 0), 0);
            Check.due("distance", () -> fens.distance(word, word), 0);
            Check.due("price", () -> fens.price(word, word), 0);
            Check.due("neighbourhood", () -> fens.neighbourhood(word, 0), 1);
            Check.due("treeParent", () -> fens.treeParent(word), word == NEVER ? FuzzyFens.NONE : Check.word("marsh"));
        }
    }

    private static void argumentAheadOfPlace() {
        Check.sentence("Terms, promise 11", FIRST);
        for (FuzzyFens fens : List.of(new FuzzyFens(), Edges.full())) {
            for (int place : new int[] {-1, 40, Integer.MIN_VALUE, Integer.MAX_VALUE}) {
                for (long number : NO_WORDS) {
                    Check.illegal("correction(" + number + ", 0, " + place + ")", () -> fens.correction(number, 0, place));
                    Check.illegal("correction(" + number + ", 4, " + place + ")", () -> fens.correction(number, 4, place));
                }
                Check.illegal("correction(sedge, -1, " + place + ")", () -> fens.correction(NEVER, -1, place));
                Check.illegal("correction(sedge, 4, " + place + ")", () -> fens.correction(NEVER, 4, place));
                Check.noPlace("correction(sedge, 0, " + place + ")", () -> fens.correction(NEVER, 0, place));
                Check.noPlace("correction(sedge, 3, " + place + ")", () -> fens.correction(NEVER, 3, place));
            }
        }
    }

    private static void argumentAheadOfAnEmptyObject() {
        Check.sentence("Terms", "A method throws IllegalArgumentException if a number is no word or an argument is out of range");
        FuzzyFens fens = new FuzzyFens();
        for (Refused refused : illegal()) {
            Check.throwing(refused.call + " of promise " + refused.promise, refused.thrown, () -> refused.run.accept(fens));
        }
    }

    private static void nothingChangesInAnEmptyObject() {
        List<Refused> all = illegal();
        all.addAll(notKnown(0));
        all.add(new Refused(3, "forget(mere)", STATE, fens -> fens.forget(KNOWN)));
        eachChangesNothing("an empty object", all, FuzzyFens::new, SOME);
    }

    private static void nothingChangesInAnObjectWithWords() {
        List<Refused> all = illegal();
        all.addAll(notKnown(3));
        eachChangesNothing("an object with words", all, RefusalsTest::withWords, SOME);
    }

    private static void nothingChangesInAFullObject() {
        List<Refused> all = illegal();
        all.addAll(notKnown(Edges.MOST_WORDS));
        all.add(new Refused(2, "add(sedge, 1)", STATE, fens -> fens.add(NEVER, 1)));
        all.add(new Refused(2, "add(sedge, 1000)", STATE, fens -> fens.add(NEVER, 1000)));
        List<String> watched = Edges.forty().subList(0, 20);
        eachChangesNothing("a full object", all, Edges::full, concat(watched, SOME));
    }

    private static void nothingChangesByManyRefusals() {
        Check.sentence("Terms, promises 2 to 22", UNCHANGED);
        FuzzyFens fens = withWords();
        List<Refused> all = illegal();
        all.addAll(notKnown(3));
        for (Refused refused : all) {
            Check.throwing(refused.call, refused.thrown, () -> refused.run.accept(fens));
        }
        Check.due("all calls after " + all.size() + " refused ones", State.of(fens, SOME), State.of(withWords(), SOME));
    }

    private static void eachChangesNothing(String where, List<Refused> all, Supplier<FuzzyFens> made, List<String> watched) {
        String untouched = laterCalls(made.get(), watched);
        for (Refused refused : all) {
            Check.sentence("Terms, promise " + refused.promise, UNCHANGED);
            FuzzyFens fens = made.get();
            Check.throwing(refused.call + " in " + where, refused.thrown, () -> refused.run.accept(fens));
            Check.due("all calls after " + refused.call + " in " + where, laterCalls(fens, watched), untouched);
        }
    }

    /** What the object tells, and what it tells after words were added and forgotten, as far as it takes them. */
    private static String laterCalls(FuzzyFens fens, List<String> watched) {
        StringBuilder told = new StringBuilder(State.of(fens, watched));
        for (long word : new long[] {NEVER, KNOWN, FORGOTTEN, Check.word("aa")}) {
            told.append("; add ").append(word).append(' ').append(answerOf(() -> fens.add(word, 7)));
        }
        for (long word : new long[] {KNOWN, FORGOTTEN, Check.word("a"), Check.word("zz")}) {
            told.append("; forget ").append(word).append(' ').append(answerOf(() -> fens.forget(word)));
        }
        told.append("; ").append(fens.words()).append(' ').append(fens.treeNodes()).append(' ').append(fens.trieNodes());
        for (long word : new long[] {NEVER, KNOWN, FORGOTTEN, Check.word("a"), Check.word("aa")}) {
            told.append(' ').append(fens.count(word)).append(' ').append(fens.treeDepth(word));
            told.append(' ').append(fens.treeParent(word)).append(' ').append(fens.corrections(word, 3));
        }
        return told.toString();
    }

    private static String answerOf(Supplier<Integer> call) {
        try {
            return call.get().toString();
        } catch (RuntimeException e) {
            return e.getClass().getName();
        }
    }

    private static FuzzyFens withWords() {
        FuzzyFens fens = new FuzzyFens();
        fens.add(Check.word("marsh"), 1000);
        fens.add(FORGOTTEN, 41);
        fens.add(KNOWN, 5);
        fens.add(Check.word("mere"), 5);
        fens.add(Check.word("merge"), 1);
        fens.forget(FORGOTTEN);
        return fens;
    }

    /** The calls that are refused in an object with so many words that are known, as a word or a place is not there. */
    private static List<Refused> notKnown(int words) {
        List<Refused> all = new ArrayList<>();
        all.add(new Refused(3, "forget(sedge)", STATE, fens -> fens.forget(NEVER)));
        all.add(new Refused(3, "forget(reed)", STATE, fens -> fens.forget(FORGOTTEN)));
        for (int place : new int[] {-1, words, Integer.MIN_VALUE, Integer.MAX_VALUE}) {
            all.add(new Refused(6, "wordAt(" + place + ")", PLACE, fens -> fens.wordAt(place)));
        }
        for (int place : new int[] {-1, Edges.MOST_WORDS, Integer.MIN_VALUE, Integer.MAX_VALUE}) {
            all.add(new Refused(11, "correction(mere, 3, " + place + ")", PLACE, fens -> fens.correction(KNOWN, 3, place)));
            all.add(new Refused(11, "correction(mere, 0, " + place + ")", PLACE, fens -> fens.correction(KNOWN, 0, place)));
        }
        return all;
    }

    /** The calls that are refused in any object, as an argument is out of range. */
    private static List<Refused> illegal() {
        List<Refused> all = new ArrayList<>();
        for (long number : NO_WORDS) {
            addWithNoWord(all, number);
        }
        for (int bad : new int[] {0, -1, 1001, Integer.MIN_VALUE, Integer.MAX_VALUE}) {
            illegal(all, 2, "add(mere, " + bad + ")", fens -> fens.add(KNOWN, bad));
            illegal(all, 2, "add(reed, " + bad + ")", fens -> fens.add(FORGOTTEN, bad));
            illegal(all, 2, "add(sedge, " + bad + ")", fens -> fens.add(NEVER, bad));
        }
        for (int bad : new int[] {0, -1, 27, Integer.MIN_VALUE, Integer.MAX_VALUE}) {
            illegal(all, 9, "areNeighbours(" + bad + ", 1)", fens -> fens.areNeighbours(bad, 1));
            illegal(all, 9, "areNeighbours(26, " + bad + ")", fens -> fens.areNeighbours(26, bad));
        }
        for (int bad : new int[] {-1, 4, Integer.MIN_VALUE, Integer.MAX_VALUE}) {
            illegal(all, 10, "corrections(mere, " + bad + ")", fens -> fens.corrections(KNOWN, bad));
            illegal(all, 11, "correction(mere, " + bad + ", 0)", fens -> fens.correction(KNOWN, bad, 0));
            illegal(all, 14, "trieReached(mere, " + bad + ")", fens -> fens.trieReached(KNOWN, bad));
            illegal(all, 15, "rows(mere, " + bad + ")", fens -> fens.rows(KNOWN, bad));
            illegal(all, 19, "treeCompared(mere, " + bad + ")", fens -> fens.treeCompared(KNOWN, bad));
        }
        for (int bad : new int[] {-1, 3, Integer.MIN_VALUE, Integer.MAX_VALUE}) {
            illegal(all, 20, "neighbourhood(mere, " + bad + ")", fens -> fens.neighbourhood(KNOWN, bad));
            illegal(all, 21, "candidates(mere, " + bad + ")", fens -> fens.candidates(KNOWN, bad));
            illegal(all, 22, "falseCandidates(mere, " + bad + ")", fens -> fens.falseCandidates(KNOWN, bad));
        }
        return all;
    }

    private static void addWithNoWord(List<Refused> all, long number) {
        illegal(all, 2, "add(" + number + ", 1)", fens -> fens.add(number, 1));
        illegal(all, 3, "forget(" + number + ")", fens -> fens.forget(number));
        illegal(all, 5, "count(" + number + ")", fens -> fens.count(number));
        illegal(all, 7, "distance(" + number + ", mere)", fens -> fens.distance(number, KNOWN));
        illegal(all, 7, "distance(mere, " + number + ")", fens -> fens.distance(KNOWN, number));
        illegal(all, 8, "price(" + number + ", mere)", fens -> fens.price(number, KNOWN));
        illegal(all, 8, "price(mere, " + number + ")", fens -> fens.price(KNOWN, number));
        illegal(all, 10, "corrections(" + number + ", 3)", fens -> fens.corrections(number, 3));
        illegal(all, 11, "correction(" + number + ", 3, 0)", fens -> fens.correction(number, 3, 0));
        illegal(all, 12, "nearest(" + number + ")", fens -> fens.nearest(number));
        illegal(all, 14, "trieReached(" + number + ", 3)", fens -> fens.trieReached(number, 3));
        illegal(all, 15, "rows(" + number + ", 3)", fens -> fens.rows(number, 3));
        illegal(all, 17, "treeDepth(" + number + ")", fens -> fens.treeDepth(number));
        illegal(all, 18, "treeParent(" + number + ")", fens -> fens.treeParent(number));
        illegal(all, 19, "treeCompared(" + number + ", 3)", fens -> fens.treeCompared(number, 3));
        illegal(all, 20, "neighbourhood(" + number + ", 2)", fens -> fens.neighbourhood(number, 2));
        illegal(all, 21, "candidates(" + number + ", 2)", fens -> fens.candidates(number, 2));
        illegal(all, 22, "falseCandidates(" + number + ", 2)", fens -> fens.falseCandidates(number, 2));
    }

    private static void illegal(List<Refused> all, int promise, String call, Consumer<FuzzyFens> run) {
        all.add(new Refused(promise, call, ARGUMENT, run));
    }

    private static List<String> concat(List<String> one, List<String> other) {
        List<String> both = new ArrayList<>(one);
        both.addAll(other);
        return both;
    }
}
