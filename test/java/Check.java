import java.io.IOException;
import java.io.UncheckedIOException;
import java.nio.file.Files;
import java.nio.file.Path;

/** Counts and prints the answers that are not the ones due. */
final class Check {
    private static final Path DOCUMENT = Path.of("../shared/DOC.md");

    private final String title;
    private String document = "";
    private String sentence = "";
    private int sentences = 0;
    private int looked = 0;
    private int lookedBefore = 0;
    private int wrong = 0;

    Check(String title) {
        this.title = title;
    }

    /** The answers from here on are due by these words of the document. */
    void says(String words) {
        endSentence();
        if (!document().contains(words)) {
            wrong++;
            System.out.println(title + ": the document does not say: " + words);
        }
        sentence = words;
        sentences++;
        lookedBefore = looked;
    }

    private String document() {
        if (document.isEmpty()) {
            try {
                document = Files.readString(DOCUMENT).replaceAll("\\s+", " ");
            } catch (IOException e) {
                throw new UncheckedIOException(e);
            }
        }
        return document;
    }

    private void endSentence() {
        if (!sentence.isEmpty() && looked == lookedBefore) {
            wrong++;
            System.out.println(title + ": no answer was looked at for: " + sentence);
        }
    }

    void due(String call, long got, long want) {
        tell(call, got == want, String.valueOf(got), String.valueOf(want));
    }

    void due(String call, boolean got, boolean want) {
        tell(call, got == want, String.valueOf(got), String.valueOf(want));
    }

    /** -0 is not taken for 0 here. */
    void due(String call, double got, double want) {
        tell(call, Double.doubleToRawLongBits(got) == Double.doubleToRawLongBits(want),
                String.valueOf(got), String.valueOf(want));
    }

    void due(String call, String got, String want) {
        tell(call, got.equals(want), got, want);
    }

    private void tell(String call, boolean right, String got, String want) {
        looked++;
        if (!right) {
            wrong++;
            if (wrong <= 40) {
                System.out.println(title + ": " + call + " answered " + got + ", due is " + want
                        + (sentence.isEmpty() ? "" : " by: " + sentence));
            }
        }
    }

    int wrongs() {
        return wrong;
    }

    void end() {
        endSentence();
        String of = sentences == 0 ? "" : " for " + sentences + " sentences";
        System.out.println(title + ": " + looked + " answers looked at" + of + ", " + wrong + " not as due");
        if (wrong != 0 || looked == 0) {
            System.exit(1);
        }
    }
}
