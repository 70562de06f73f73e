import java.io.IOException;
import java.util.Arrays;
import java.util.regex.Matcher;
import java.util.regex.Pattern;

/**
 * No word of the document, from its first line to promise 40, without a test that is named by the sentence it stands in.
 * It runs the tests of edges again, since they tell their names as they run.
 */
public final class SentencesTest {
    private static final Check CHECK = new Check("SentencesTest");
    private static final int PROMISES = 40;
    // how the document sets its parts apart, and the call that a promise is of: its face is looked at line by line
    private static final Pattern NOT_SAID = Pattern.compile("```(java|text)?|======== [1-4] |^`[^`]*`");

    public static void main(String[] args) throws IOException {
        FaceEdgesTest.main(args);
        OverviewEdgesTest.main(args);
        WheelEdgesTest.main(args);
        LineEdgesTest.main(args);
        EmptyingEdgesTest.main(args);
        NotesEdgesTest.main(args);
        GuessesEdgesTest.main(args);
        DigestEdgesTest.main(args);
        RefusalsEdgesTest.main(args);
        String document = Edges.documentText();
        if (!document.isEmpty()) {
            CHECK.that("headings of the document", headings(document) == PROMISES + 5);
            look(document, "What it is");
            look(document, "The public face");
            look(document, "Terms");
            for (int number = 1; number <= PROMISES; number++) {
                look(document, "Promise " + number);
            }
        }
        CHECK.that("the tests of edges came to their ends", true);
        CHECK.end();
    }

    /** With 'Not promised', of which nothing can be asked. */
    private static int headings(String document) {
        int count = 0;
        Matcher heading = Pattern.compile("(?m)^# |^## (What it is|The public face|Terms|Promise \\d+: |Not promised)")
            .matcher(document);
        while (heading.find()) {
            count++;
        }
        return count;
    }

    private static void look(String document, String heading) {
        String text = Edges.section(document, heading).replaceFirst("^:.*? `", "`").trim();
        boolean[] held = new boolean[text.length()];
        Matcher notSaid = NOT_SAID.matcher(text);
        while (notSaid.find()) {
            Arrays.fill(held, notSaid.start(), notSaid.end(), true);
        }
        for (String sentence : Edges.named(heading)) {
            for (int i = text.indexOf(sentence); i >= 0; i = text.indexOf(sentence, i + 1)) {
                Arrays.fill(held, i, i + sentence.length(), true);
            }
        }
        Matcher word = Pattern.compile("[\\w-]+").matcher(text);
        while (word.find()) {
            String around = text.substring(Math.max(0, word.start() - 30), Math.min(text.length(), word.end() + 30));
            CHECK.that(heading + ": no test of '" + word.group() + "' in '.. " + around + " ..'", held[word.start()]);
        }
    }
}
