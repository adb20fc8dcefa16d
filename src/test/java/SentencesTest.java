import java.io.IOException;
import java.lang.reflect.Method;
import java.nio.file.Files;
import java.nio.file.Path;
import java.util.ArrayList;
import java.util.List;
import java.util.regex.Matcher;
import java.util.regex.Pattern;

/**
 * Every test of a boundary case quotes the document rightly, and every boundary case that the document names in a
 * parameter's range or in what a method returns has such a test.
 */
public final class SentencesTest {
    private static final Class<?>[] TESTS = {TableEdgesTest.class, RuleTextEdgesTest.class, RulesEdgesTest.class,
        RelationsEdgesTest.class, TreeEdgesTest.class, SampleEdgesTest.class, ArraysEdgesTest.class,
        SnapshotEdgesTest.class};
    private static final int PROMISES = 47;
    private static final Pattern RANGE = Pattern.compile("\\d to (\\d|the number)|, or -?\\d for");
    private static final Pattern CODE = Pattern.compile("[A-Z]{4,}|-1000|Returns 1");

    private final List<List<String>> quotes = new ArrayList<>();

    public static void main(String[] args) throws IOException {
        SentencesTest test = new SentencesTest();
        test.gather();
        Path document = Path.of(System.getProperty("document", "../shared/DOC.md"));
        if (Files.isReadable(document)) {
            test.check(sections(Files.readString(document)));
        } else {
            System.out.println("there is no document to compare the quotes with: " + document);
        }
        Due.close();
    }

    private void gather() {
        for (int promise = 0; promise <= PROMISES; promise++) {
            quotes.add(new ArrayList<>());
        }
        for (Class<?> tests : TESTS) {
            for (Method method : Edges.testsOf(tests)) {
                Sentence sentence = method.getAnnotation(Sentence.class);
                quotes.get(sentence.promise()).add(sentence.says());
            }
        }
        for (int promise = 0; promise <= PROMISES; promise++) {
            Due.due("promise " + promise + " has tests", quotes.get(promise).isEmpty() ? 0 : 1, 1);
        }
    }

    /** What stands before promise 1, then each promise. */
    private static List<String> sections(String document) {
        List<String> sections = new ArrayList<>(List.of(document.split("(?m)^## Promise \\d+:")));
        int last = sections.size() - 1;
        sections.set(last, sections.get(last).split("(?m)^## ")[0]);
        return sections;
    }

    private static String oneLine(String text) {
        return text.replace("`", "").replaceAll("\\s+", " ").trim();
    }

    private void check(List<String> sections) {
        Due.due("promises of the document", sections.size() - 1, PROMISES);
        for (int promise = 0; promise <= PROMISES && promise < sections.size(); promise++) {
            String text = oneLine(sections.get(promise));
            for (String quote : quotes.get(promise)) {
                Due.due("promise " + promise + " says \"" + quote + "\"", text.contains(quote) ? 1 : 0, 1);
            }
            if (promise > 0) {
                checkRanges(promise, sections.get(promise));
                checkAnswers(promise, text);
            }
        }
    }

    /** The lines of parameters that name a range. */
    private void checkRanges(int promise, String section) {
        Matcher lines = Pattern.compile("(?m)^- `\\w+`: (.*)$").matcher(section);
        while (lines.find()) {
            String line = oneLine(lines.group(1));
            if (RANGE.matcher(line).find()) {
                Due.due("promise " + promise + ": a test of \"" + line + "\"", isQuoted(promise, line) ? 1 : 0, 1);
            }
        }
    }

    /** The parts of the last paragraph, which tells the answers, that name a code. */
    private void checkAnswers(int promise, String text) {
        int start = text.lastIndexOf("Returns ");
        Due.due("promise " + promise + " tells its answers", promise == 1 || start >= 0 ? 1 : 0, 1);
        if (start < 0) {
            return;
        }
        for (String part : text.substring(start).split("; ")) {
            if (CODE.matcher(part).find()) {
                Due.due("promise " + promise + ": a test of \"" + part + "\"", isQuoted(promise, part) ? 1 : 0, 1);
            }
        }
    }

    private boolean isQuoted(int promise, String part) {
        for (String quote : quotes.get(promise)) {
            if (part.contains(quote) || quote.contains(part)) {
                return true;
            }
        }
        return false;
    }
}
