import java.io.IOException;
import java.io.UncheckedIOException;
import java.nio.file.Files;
import java.nio.file.Path;
import java.nio.file.StandardOpenOption;
import java.util.function.LongSupplier;

/** What the tests share: spelling words, comparing answers, and the end of a test. */
final class Check {
    /** Numbers that are no words: letters out of range at each end and inside, signs, too many letters. */
    static final long[] NO_WORDS = {
        0, -1, -2, Long.MIN_VALUE, Long.MAX_VALUE, Integer.MIN_VALUE,
        27, 28, 31, 32, 64, 26 * 32, 26 * 32 + 27, 27 * 32 + 1, 31 * 32 + 31, 33 * 32, 1025, 1024 * 26 + 26,
        word("abcdefghij") * 32 + 1, word("zzzzzzzzzz") * 32 + 26, word("zzzzzzzzzz") + 1, word("aaaaaaaaaa") - 1,
        (1L << 50) + 1, 36028797018963969L, (1L << 63) + 1, (1L << 60) + word("aaaaaaaaaa"), 1L << 55,
        27L << 45 | word("aaaaaaaaa"),
    };
    static final String[] LONGEST = {"aaaaaaaaaa", "zzzzzzzzzz", "abcdefghij"};

    private static int wrong = 0;
    private static int compared = 0;
    private static String sentence = "";
    private static final StringBuilder QUOTED = new StringBuilder();
    private static final Document DOCUMENT = read();

    private Check() {
    }

    /** Begins the test of a sentence of the document; what is wrong up to the next one is told with it. */
    static void sentence(String where, String words) {
        endSentence();
        sentence = where + ", \"" + words + "\": ";
        compared = 0;
        QUOTED.append(Document.heading(where)).append('\t').append(words).append('\n');
        if (Document.isHere() && !DOCUMENT.says(where, words)) {
            tell("is not in the document");
        }
    }

    static long word(String letters) {
        long number = 0;
        for (int i = 0; i < letters.length(); i++) {
            number = number * 32 + (letters.charAt(i) - 'a' + 1);
        }
        return number;
    }

    /** The word with this number among all those with so many letters, each a different one. */
    static String numbered(int number, int length) {
        StringBuilder letters = new StringBuilder();
        int rest = number;
        for (int i = 0; i < length; i++) {
            letters.append((char) ('a' + rest % 26));
            rest /= 26;
        }
        return letters.reverse().toString();
    }

    static FuzzyFens knowing(String... words) {
        FuzzyFens fens = new FuzzyFens();
        for (String word : words) {
            fens.add(word(word), 1);
        }
        return fens;
    }

    static void due(String call, long got, long want) {
        compared++;
        if (got != want) {
            tell(call + " answered " + got + ", due is " + want);
        }
    }

    static void due(String call, String got, String want) {
        compared++;
        if (!got.equals(want)) {
            tell(call + " answered\n    " + got + "\n  due is\n    " + want);
        }
    }

    static void due(String call, boolean got, boolean want) {
        due(call, got ? 1L : 0L, want ? 1L : 0L);
    }

    static void due(String call, LongSupplier run, long want) {
        try {
            due(call, run.getAsLong(), want);
        } catch (RuntimeException e) {
            tell(call + " threw " + e + ", due is " + want);
        }
    }

    static void illegal(String call, Runnable run) {
        throwing(call, IllegalArgumentException.class, run);
    }

    static void badState(String call, Runnable run) {
        throwing(call, IllegalStateException.class, run);
    }

    static void noPlace(String call, Runnable run) {
        throwing(call, IndexOutOfBoundsException.class, run);
    }

    static void finish() {
        endSentence();
        keepQuoted();
        System.out.println(wrong == 0 ? "all answers are as due" : wrong + " answers are not as due");
        System.exit(wrong == 0 ? 0 : 1);
    }

    static void throwing(String call, Class<? extends RuntimeException> want, Runnable run) {
        String got = "nothing";
        compared++;
        try {
            run.run();
        } catch (RuntimeException e) {
            // The very class: a machine's ArrayIndexOutOfBoundsException is no answer of a call.
            if (e.getClass() == want) {
                return;
            }
            got = e.toString();
        }
        tell(call + " threw " + got + ", due is " + want.getName());
    }

    /** A sentence that nothing was compared for has no test. */
    private static void endSentence() {
        if (!sentence.isEmpty() && compared == 0) {
            tell("nothing is tested");
        }
    }

    /** EverySentence looks at what all the tests have quoted, if .ci/run names a file for it. */
    private static void keepQuoted() {
        String file = System.getProperty("quoted");
        if (file != null) {
            try {
                Files.writeString(Path.of(file), QUOTED, StandardOpenOption.CREATE, StandardOpenOption.APPEND);
            } catch (IOException e) {
                throw new UncheckedIOException(e);
            }
        }
    }

    private static Document read() {
        try {
            return new Document();
        } catch (IOException e) {
            throw new UncheckedIOException(e);
        }
    }

    private static void tell(String fault) {
        wrong++;
        System.out.println(sentence + fault);
    }
}
