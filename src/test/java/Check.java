import java.util.HashSet;
import java.util.Set;

/** Counts the answers of one test that are not as due, and tells them. */
final class Check {
    private int seen;
    private int wrong;
    private final Set<String> sentences = new HashSet<>();
    private String sentence = "";
    private int seenBefore;

    /** The answers from here on test this sentence of the document. */
    void sentence(String words) {
        endSentence();
        sentences.add(words);
        sentence = words;
        seenBefore = seen;
    }

    // A sentence without an answer would stand in the test and be tested by nothing.
    private void endSentence() {
        if (!sentence.isEmpty() && seen == seenBefore) {
            tell("no answer was asked for");
        }
    }

    void due(String call, long got, long want) {
        seen++;
        if (got != want) {
            tell(call + " answered " + got + ", due is " + want);
        }
    }

    void due(String call, boolean got, boolean want) {
        due(call, got ? 1L : 0L, want ? 1L : 0L);
    }

    void due(String call, String got, String want) {
        seen++;
        if (!got.equals(want)) {
            tell(call + " gave \"" + got + "\", due is \"" + want + "\"");
        }
    }

    private void tell(String fault) {
        wrong++;
        System.out.println(sentence.isEmpty() ? fault : fault + " [" + sentence + "]");
    }

    /** Ends the program with exit code 1 if an answer was wrong. */
    void end() {
        endSentence();
        String told = sentences.isEmpty() ? "" : ", over " + sentences.size() + " sentences of the document";
        System.out.println(wrong == 0 ? seen + " answers are as due" + told : wrong + " answers are not as due");
        if (wrong != 0) {
            System.exit(1);
        }
    }
}
