import java.io.IOException;
import java.nio.file.Path;
import java.util.Arrays;
import java.util.regex.Matcher;
import java.util.regex.Pattern;

/** That no sentence of the document's terms and promises stands without checks: each is quoted by a test. */
public final class DocumentTest {
    private static final Pattern QUOTED = Pattern.compile("says\\(\"((?:[^\"\\\\]|\\\\.)*)\"\\)");
    /** What stands around the sentences: headings, fences, signatures, the parts of the interface. */
    private static final Pattern AROUND = Pattern.compile(
        "(?m)^## .*$|^```(?:text)?$|^==== \\d|^`\\w[^`]*\\)`:|^Ahead of the calls .*$|^The constants:|^Answers:|What a RULE PICKS:");

    private static int mark(String text, String quote, boolean[] covered) {
        int found = 0;
        for (int at = text.indexOf(quote); at >= 0; at = text.indexOf(quote, at + 1)) {
            Arrays.fill(covered, at, at + quote.length(), true);
            found++;
        }
        return found;
    }

    public static void main(String[] args) throws IOException {
        Checks checks = new Checks();
        Project project = new Project(args);
        String document = project.document;
        String text = document.substring(document.indexOf("## Terms"), document.indexOf("## Not promised"));
        boolean[] covered = new boolean[text.length()];
        int quotes = 0;
        for (Path file : project.tests()) {
            Matcher m = QUOTED.matcher(Project.read(file));
            while (m.find()) quotes += mark(text, m.group(1), covered);
        }
        checks.due("there are quotes: " + quotes, quotes > 80 ? 1 : 0, 1);
        Matcher around = AROUND.matcher(text);
        while (around.find()) Arrays.fill(covered, around.start(), around.end(), true);
        int from = -1;
        for (int i = 0; i <= text.length(); i++) {
            boolean bare = i < text.length() && !covered[i] && text.charAt(i) != '\n';
            if (bare && from < 0) from = i;
            if (!bare && from >= 0) {
                String left = text.substring(from, i);
                boolean words = Pattern.compile("\\w").matcher(left).find();
                checks.due("quoted by a test: \"" + left + "\"", words ? 0 : 1, 1);
                from = -1;
            }
        }
        checks.end();
    }
}
