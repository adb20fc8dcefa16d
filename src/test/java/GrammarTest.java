import java.util.HashSet;
import java.util.Set;

/**
 * "The grammar is: rule = set { "," set } ":" action; set = "*" | digit { digit }; action = digit.": every short
 * text over some signs, against the texts that the grammar derives and the starts of them.
 */
public final class GrammarTest {
    private static final int LONGEST = 5;
    /** Of each object's 512 calls a text takes at most its bytes, addRule, ruleCount and removeRule. */
    private static final int TEXTS_OF_ONE_OBJECT = 512 / (LONGEST + 3) - 1;

    private final int[] sizes;
    private final String signs;
    private final Set<String> rules = new HashSet<>();
    private final Set<String> starts = new HashSet<>();
    private DecisionTableCompiler x;
    private int texts;

    private GrammarTest(String signs, int... sizes) {
        this.signs = signs;
        this.sizes = sizes;
    }

    public static void main(String[] args) {
        new GrammarTest("0149*,:/ ", 2).run();
        new GrammarTest("0145*,:;", 5).run();
        new GrammarTest("0123*,:", 3, 2).run();
        new GrammarTest("0134*,:", 2, 4).run();
        new GrammarTest("012*,:", 2, 2, 2).run();
        new GrammarTest("02*,:", 2, 3, 2, 2).run();
        Due.close();
    }

    private void run() {
        deriveSets("", 0);
        tryAll("");
    }

    /** All texts that go on with the sets from a condition on. */
    private void deriveSets(String text, int condition) {
        if (text.length() > LONGEST) {
            return;
        }
        starts.add(text);
        deriveRest(text + "*", condition);
        deriveDigits(text, condition);
    }

    private void deriveDigits(String text, int condition) {
        if (text.length() > LONGEST) {
            return;
        }
        for (int value = 0; value < sizes[condition]; value++) {
            deriveRest(text + value, condition);
            deriveDigits(text + value, condition);
        }
    }

    /** All texts that go on behind the set of a condition. */
    private void deriveRest(String text, int condition) {
        starts.add(text);
        if (condition + 1 < sizes.length) {
            deriveSets(text + ",", condition + 1);
            return;
        }
        starts.add(text + ":");
        for (int action = 0; action <= 9; action++) {
            starts.add(text + ":" + action);
            rules.add(text + ":" + action);
        }
    }

    private void tryAll(String text) {
        tryOne(text);
        for (int i = 0; i < signs.length() && text.length() < LONGEST; i++) {
            tryAll(text + signs.charAt(i));
        }
    }

    private void tryOne(String text) {
        if (texts % TEXTS_OF_ONE_OBJECT == 0) {
            x = Due.table(sizes);
        }
        texts++;
        boolean derived = rules.contains(text);
        Due.due("addRule of " + text, Due.add(x, text), derived ? 0 : -1000 - fault(text));
        Due.due("ruleCount behind " + text, x.ruleCount(), derived ? 1 : 0);
        if (derived) {
            Due.due("removeRule behind " + text, x.removeRule(0), 0);
        }
    }

    /** The first byte with which the text is no longer the start of one that is derived, or the length. */
    private int fault(String text) {
        for (int i = 0; i < text.length(); i++) {
            if (!starts.contains(text.substring(0, i + 1))) {
                return i;
            }
        }
        return text.length();
    }
}
