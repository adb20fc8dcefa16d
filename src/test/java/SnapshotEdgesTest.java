/** The boundary cases of promises 46 and 47. */
public final class SnapshotEdgesTest extends Edges {
    public static void main(String[] args) throws Exception {
        runAll(SnapshotEdgesTest.class);
    }

    @Sentence(promise = 0, says = "After a restore, the array slots and the buffer are as before.")
    private static void slotsAndBufferStay() {
        DecisionTableCompiler x = fresh();
        x.snapshot();
        x.append('0', 40);
        x.storeActions(0);
        x.allocate(1, LONGS, 700);
        x.putElement(1, 699, 5);
        due("restore()", x.restore(), 0);
        due("the buffer is full", x.append('0', 1), FULL);
        due("the buffer", x.clearInput(), 40);
        due("an array made behind the snapshot", x.element(1, 699), 5);
        due("stored actions", x.compareActions(0), NONE);
        x.snapshot();
        x.release(1);
        x.restore();
        due("an array released behind the snapshot", x.release(1), 0);
        due("the buffer is empty", x.clearInput(), 0);
    }

    @Sentence(promise = 46, says = "its conditions, weights, test costs, rules and default action.")
    private static void fullTable() {
        DecisionTableCompiler x = heaviest();
        x.setDefault(9);
        for (int c = 0; c < 4; c++) {
            x.setCost(c, 9);
            x.setWeight(c, 0, 0);
        }
        for (int rule = 0; rule < 12; rule++) {
            Due.add(x, "*,*,0,4:" + rule % 10);
        }
        due("snapshot()", x.snapshot(), 12);
        x.reset(2, 0, 0, 0);
        due("restore()", x.restore(), 12);
        due("conditionCount()", x.conditionCount(), 4);
        due("caseCount()", x.caseCount(), 625);
        for (int rule = 0; rule < 12; rule++) {
            due("ruleAction(" + rule + ")", x.ruleAction(rule), rule % 10);
            due("ruleCases(" + rule + ")", x.ruleCases(rule), 25);
        }
        due("matches(4)", x.matches(4), 4095);
        due("the table is full", Due.add(x, "0,0,0,0:0"), FULL);
        due("default", x.setDefault(0), 9);
        for (int c = 0; c < 4; c++) {
            due("cost of " + c, x.setCost(c, 1), 9);
            for (int v = 0; v < 5; v++) {
                due("weight of " + c + " " + v, x.setWeight(c, v, 1), v == 0 ? 0 : 9);
            }
        }
    }

    @Sentence(promise = 46, says = "It replaces an earlier snapshot.")
    private static void laterSnapshots() {
        DecisionTableCompiler x = withRules(12);
        due("a full one", x.snapshot(), 12);
        x.reset(2, 0, 0, 0);
        due("an empty one", x.snapshot(), 0);
        Due.add(x, "0:1");
        due("restore the empty one", x.restore(), 0);
        due("caseCount()", x.caseCount(), 2);
        due("matches(0)", x.matches(0), 0);
        due("default", x.setDefault(4), NONE);
        due("snapshot()", x.snapshot(), 0);
        x.setDefault(-1);
        x.restore();
        due("action(1)", x.action(1), 4);
    }

    @Sentence(promise = 46, says = "Takes a snapshot of the table")
    private static void snapshotIsACopy() {
        DecisionTableCompiler x = withRules(3);
        x.snapshot();
        x.removeRule(0);
        x.setWeight(0, 0, 9);
        x.setCost(0, 9);
        x.setDefault(9);
        x.mergeRules();
        due("the table changes", x.ruleCount(), 2);
        due("the snapshot does not", x.restore(), 3);
        due("ruleAction(0)", x.ruleAction(0), 0);
        due("weight", x.setWeight(0, 0, 1), 1);
        due("cost", x.setCost(0, 1), 1);
        due("default", x.setDefault(-1), NONE);
    }

    @Sentence(promise = 46, says = "rules and default action.")
    private static void overwrittenRules() {
        DecisionTableCompiler x = withRules(12);
        x.snapshot();
        x.reset(2, 3, 0, 0);
        for (int rule = 0; rule < 12; rule++) {
            Due.add(x, "*,*:7");
        }
        due("restore()", x.restore(), 12);
        for (int rule = 0; rule < 12; rule++) {
            due("ruleAction(" + rule + ")", x.ruleAction(rule), rule % 10);
            due("ruleSet(" + rule + ", 0)", x.ruleSet(rule, 0), 1 << rule % 2);
            due("ruleSet(" + rule + ", 1)", x.ruleSet(rule, 1), 1 << rule % 3);
        }
    }

    @Sentence(promise = 46, says = "Returns the number of rules.")
    private static void snapshotAnswers() {
        due("of none", fresh().snapshot(), 0);
        due("of one", withRules(1).snapshot(), 1);
        due("of twelve", withRules(12).snapshot(), 12);
    }

    @Sentence(promise = 47, says = "The snapshot stays available.")
    private static void restoreAgain() {
        DecisionTableCompiler x = withRules(2);
        x.snapshot();
        for (int time = 0; time < 3; time++) {
            due("restore()", x.restore(), 2);
            due("ruleCount()", x.ruleCount(), 2);
            due("a change behind it", x.removeRule(0), 1);
            due("a change behind it", x.setWeight(0, 0, 0), 1);
            due("a change behind it", x.reset(5, 5, 0, 0), 25);
        }
        due("restore()", x.restore(), 2);
        due("weight", x.setWeight(0, 0, 1), 1);
    }

    @Sentence(promise = 47, says = "Discards the tree.")
    private static void restoreDiscards() {
        DecisionTableCompiler x = withRules(2);
        x.compile();
        due("refused", x.restore(), NONE);
        int nodes = x.node(0, 2);
        due("it keeps the tree", nodes > 0 ? 1 : 0, 1);
        x.snapshot();
        due("a snapshot keeps it too", x.node(0, 2), nodes);
        due("restore of the same table", x.restore(), 2);
        due("the tree is discarded", x.node(0, 2), NOT_COMPILED);
        due("it can be compiled again", x.compile(), nodes);
    }

    @Sentence(promise = 47, says = "Returns the number of rules")
    private static void restoreAnswers() {
        for (int count : numbers(0, 1, 12)) {
            DecisionTableCompiler x = withRules(count);
            x.snapshot();
            x.reset(2, 2, 0, 0);
            due("restore() of " + count, x.restore(), count);
        }
    }

    @Sentence(promise = 47, says = "NONE if there is no snapshot.")
    private static void noSnapshot() {
        DecisionTableCompiler x = withRules(12);
        x.setDefault(9);
        due("restore()", x.restore(), NONE);
        due("the table stays", x.ruleCount(), 12);
        due("the default stays", x.setDefault(9), 9);
        x.reset(2, 2, 0, 0);
        due("reset takes none", x.restore(), NONE);
        x.storeActions(0);
        due("storeActions takes none", x.restore(), NONE);
    }
}
