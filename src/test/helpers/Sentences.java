import java.io.IOException;
import java.nio.charset.StandardCharsets;
import java.nio.file.Files;
import java.nio.file.Path;
import java.util.ArrayList;
import java.util.List;

/** Checks that stand under a sentence of the document, quoted word by word; what is not as due is told with it. */
final class Sentences {
    static final int LEAST = Integer.MIN_VALUE, MOST = Integer.MAX_VALUE;
    static final long NO = Long.MIN_VALUE;

    private final Checks checks = new Checks();
    private final List<String> quotes = new ArrayList<>();
    private int underThis = 1;

    /** What comes from here on is due by this sentence; the one before must have had its checks. */
    void says(String quote) {
        endOfQuote();
        quotes.add(quote);
        underThis = 0;
    }

    void due(String call, long got, long want) {
        underThis++;
        checks.due("\"" + quotes.get(quotes.size() - 1) + "\": " + call, got, want);
    }

    void dueText(String call, String got, String want) {
        if (!got.equals(want)) {
            System.out.println(call + ":\n  got  " + got + "\n  want " + want);
        }
        due(call, got.equals(want) ? 1 : 0, 1);
    }

    private void endOfQuote() {
        if (underThis == 0) {
            checks.due("checks under \"" + quotes.get(quotes.size() - 1) + "\"", 0, 1);
        }
    }

    /** Ends the test; the second argument of a test is the document, in which each sentence must stand as quoted. */
    void end(String[] args) throws IOException {
        endOfQuote();
        if (args.length > 1 && Files.isReadable(Path.of(args[1]))) {
            String document = new String(Files.readAllBytes(Path.of(args[1])), StandardCharsets.UTF_8);
            for (String quote : quotes) {
                checks.due("the document has \"" + quote + "\"", document.contains(quote) ? 1 : 0, 1);
            }
        }
        checks.end();
    }

    /** Numbers outside of from .. to on both sides, the nearest and the farthest. */
    static int[] outside(int from, int to) {
        return new int[] {LEAST, from - 1, to + 1, MOST};
    }

    /** A new object that has read these texts, one race each. */
    static NineSails raced(String... texts) {
        NineSails x = new NineSails();
        for (String text : texts) {
            Checks.race(x, text);
        }
        return x;
    }
}
