import java.io.IOException;
import java.nio.file.Files;
import java.nio.file.Path;
import java.util.TreeMap;

/** Sentences of the document, each with the promise that it belongs to: what is asked behind of() is asked for that one. */
final class Sentences {
    private static final Path DOCUMENT = Path.of("../shared/DOC.md");
    private static final int PROMISES = 30;

    private final Due due = new Due();
    /** Empty where the document can't be read: its words are not looked up then, all else is asked as ever. */
    private final String document;
    private final TreeMap<Integer, Integer> told = new TreeMap<>();
    private String now = "";
    private int askedNow = 1;

    Sentences() throws IOException {
        document = Files.isReadable(DOCUMENT) ? plain(Files.readString(DOCUMENT)) : "";
        if (document.isEmpty()) {
            System.out.println(DOCUMENT + " can't be read: the words of sentences are not looked up");
        }
    }

    private static String plain(String text) {
        return text.replaceAll("\\s+", " ");
    }

    /** Tests of sentences; one that throws is wrong, and the others are asked all the same. */
    void each(Runnable... tests) {
        for (Runnable test : tests) {
            try {
                test.run();
            } catch (RuntimeException thrown) {
                due(thrown.toString(), 1, 0);
            }
        }
    }

    /** Words that the document does not have would make a test of nothing. */
    void of(int promise, String words) {
        endSentence();
        now = "promise " + promise + " \"" + words + "\": ";
        askedNow = 0;
        told.merge(promise, 1, Integer::sum);
        due.holds(now + "stands in the document", document.isEmpty() || document.contains(plain(words)));
    }

    private void endSentence() {
        due.holds(now + "is asked for", askedNow > 0);
    }

    void due(String call, long got, long want) {
        askedNow++;
        due.due(now + call, got, want);
    }

    void holds(String what, boolean so) {
        due(what, so ? 1 : 0, 1);
    }

    /** A text with a ^ ahead of the token that is wrong, and its kind. */
    void fault(int kind, String marked) {
        int place = marked.indexOf('^');
        if (place < 0) {
            throw new IllegalArgumentException("no ^ in " + marked);
        }
        fault(marked.substring(0, place) + marked.substring(place + 1), kind + 16 * place);
    }

    void noFault(String text) {
        fault(text, 0);
    }

    private void fault(String text, int want) {
        if (text.length() > 1000) {
            throw new IllegalArgumentException("too long: " + text);
        }
        due("shader of " + text, Due.shader(new ShaderReady(), text), want);
    }

    void end() {
        endSentence();
        int sum = 0;
        for (int promise = 1; promise <= PROMISES; promise++) {
            due.holds("promise " + promise + " has a sentence here", told.containsKey(promise));
            sum += told.getOrDefault(promise, 0);
        }
        System.out.println(sum + " sentences, by promise: " + told);
        due.end();
    }
}
