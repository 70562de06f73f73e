import java.io.IOException;
import java.nio.file.Files;
import java.nio.file.Path;
import java.util.HashMap;
import java.util.HashSet;
import java.util.Map;
import java.util.Set;
import java.util.function.Consumer;
import java.util.regex.Matcher;
import java.util.regex.Pattern;

/**
 * Tests of edges. Each is named by the sentence of ../shared/DOC.md that it holds the program to, and by the edge
 * that it looks at; that the sentence stands in the document, under the heading that is told, is looked up there.
 */
final class Edges {
    private static final Path DOCUMENT = Path.of("../shared/DOC.md");
    // of all that ran in this machine, by heading: SentencesTest looks what of the document none of them is named by
    private static final Map<String, Set<String>> NAMED = new HashMap<>();

    private final Check check;
    private final String document;
    private final Set<String> names = new HashSet<>();
    private final Set<Integer> promises = new HashSet<>();

    Edges(String name) {
        check = new Check(name);
        document = documentText();
    }

    /** The document; nothing, if it is not there. */
    static String documentText() {
        try {
            return Files.readString(DOCUMENT);
        } catch (IOException unread) {
            System.out.println("../shared/DOC.md is not there: its sentences are not looked up");
            return "";
        }
    }

    /** A test of a sentence that stands under a promise. */
    void promise(int number, String sentence, String edge, Consumer<Tried> test) {
        promises.add(number);
        run("Promise " + number, sentence, edge, test);
    }

    /** A test of a sentence that stands under 'Terms'. */
    void terms(String sentence, String edge, Consumer<Tried> test) {
        run("Terms", sentence, edge, test);
    }

    /** A test of a line that stands under 'The public face'. */
    void face(String line, String edge, Consumer<Tried> test) {
        run("The public face", line, edge, test);
    }

    /** A test of a sentence that stands under 'What it is'. */
    void whatItIs(String sentence, String edge, Consumer<Tried> test) {
        run("What it is", sentence, edge, test);
    }

    private void run(String heading, String sentence, String edge, Consumer<Tried> test) {
        String name = heading + ", '" + sentence + "' (" + edge + ")";
        NAMED.computeIfAbsent(heading, none -> new HashSet<>()).add(sentence);
        check.that(name + ": the name of another test", names.add(name));
        check.that(name + ": not in the document", document.isEmpty() || section(document, heading).contains(sentence));
        Tried tried = new Tried(check, name);
        test.accept(tried);
        check.that(name + ": looks at no answer", tried.looksAtAnswers());
    }

    /** What stands in the document under a heading, in one line. */
    static String section(String document, String heading) {
        Matcher found = Pattern.compile("(?ms)^## " + heading + "\\b(.*?)(?=^## |\\z)").matcher(document);
        return found.find() ? found.group(1).replaceAll("\\s+", " ") : "";
    }

    /** The sentences under a heading that tests are named by. */
    static Set<String> named(String heading) {
        return NAMED.getOrDefault(heading, Set.of());
    }

    /** Ends the test; each promise from the first to the last must have had one. */
    void end(int first, int last) {
        for (int number = first; number <= last; number++) {
            check.that("no edge of promise " + number, promises.contains(number));
        }
        end();
    }

    void end() {
        System.out.println(names.size() + " edges");
        check.end();
    }
}
