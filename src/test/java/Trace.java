import java.util.ArrayList;
import java.util.List;

/**
 * All that can be seen of an object, as one text. Reading uses the object up: it changes what cannot be
 * looked at otherwise. It takes fewer than 400 calls for a table of 2 and 3 values.
 */
final class Trace {
    private final DecisionTableCompiler x;
    private final List<String> lines = new ArrayList<>();

    private Trace(DecisionTableCompiler x) {
        this.x = x;
    }

    static List<String> of(DecisionTableCompiler x) {
        Trace trace = new Trace(x);
        trace.tree();
        trace.rules();
        trace.cases();
        trace.slots();
        trace.settings();
        trace.input();
        trace.line("restore", x.restore());
        trace.rules();
        trace.settings();
        return trace.lines;
    }

    private void line(String what, long... answers) {
        StringBuilder text = new StringBuilder(what);
        for (long answer : answers) {
            text.append(' ').append(answer);
        }
        lines.add(text.toString());
    }

    private void tree() {
        line("tree", x.worstCost(), x.expectedCost(), x.sharedNodeCount());
        for (int node = 0; node < x.node(0, 2); node++) {
            line("node " + node, x.node(node, 0), x.node(node, 1), x.node(node, 2), x.node(node, 3), x.sharedNode(node));
        }
    }

    private void rules() {
        line("counts", x.conditionCount(), x.caseCount(), x.ruleCount(), x.conflictCount());
        for (int rule = 0; rule < x.ruleCount(); rule++) {
            line("rule " + rule, x.ruleAction(rule), x.isShadowed(rule));
            for (int c = 0; c < x.conditionCount(); c++) {
                line("set " + c, x.ruleSet(rule, c));
            }
        }
    }

    private void cases() {
        line("gaps", x.gapCount(), x.gapWeight());
        for (int number = 0; number < x.caseCount(); number++) {
            line("case " + number, x.matches(number), x.action(number));
        }
    }

    private void slots() {
        for (int slot = 0; slot < 4; slot++) {
            line("slot " + slot, x.compareActions(slot));
            for (int i = 0; x.putElement(slot, i, x.element(slot, i)) == 1; i++) {
                line("element " + i, x.element(slot, i));
            }
            // Narrowed to each type this is another number.
            line("type", x.putElement(slot, 0, 0x1_8000_0180L), x.element(slot, 0), x.release(slot));
        }
    }

    private void settings() {
        line("default", x.setDefault(0));
        for (int c = 0; c < x.conditionCount(); c++) {
            line("cost", x.setCost(c, 5));
            for (int v = 0; x.setWeight(c, v, -1) != -2; v++) {
                line("weight", x.setWeight(c, v, 5));
            }
        }
    }

    /** The length is the answer of the first append less one; the place of a fault tells of the bytes. */
    private void input() {
        line("input", x.append('1', 1), x.append(':', 1), x.append('6', 1), x.addRule(), x.ruleCount());
    }
}
