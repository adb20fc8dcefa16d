/** Promises 46 and 47: snapshot and restore. */
public final class SnapshotTest {
    public static void main(String[] args) {
        everything();
        largest();
        replaced();
        keeps();
        trees();
        Due.close();
    }

    private static void everything() {
        DecisionTableCompiler x = Due.table(Due.sizes(2, 3), "0,12:7", "*,0:8");
        x.setDefault(5);
        x.setWeight(1, 2, 6);
        x.setCost(0, 4);
        Due.due("restore without a snapshot", x.restore(), -6);
        Due.due("snapshot", x.snapshot(), 2);
        x.removeRule(0);
        Due.add(x, "1,1:1");
        Due.add(x, "1,2:1");
        x.setDefault(-1);
        x.setWeight(1, 2, 1);
        x.setCost(0, 9);
        for (int time = 0; time < 2; time++) {
            Due.due("restore", x.restore(), 2);
            Due.due("ruleCount", x.ruleCount(), 2);
            Due.due("caseCount", x.caseCount(), 6);
            Due.due("conditionCount", x.conditionCount(), 2);
            Due.due("ruleSet", x.ruleSet(0, 1), 6);
            Due.due("ruleAction", x.ruleAction(1), 8);
            Due.due("matches", x.matches(1), 1);
            Due.due("matches", x.matches(3), 2);
            Due.due("gapWeight", x.gapWeight(), 7);
            Due.due("valueIn", x.valueIn(5, 1), 2);
            Due.due("default", x.setDefault(0), 5);
            Due.due("weight", x.setWeight(1, 2, 0), 6);
            Due.due("cost", x.setCost(0, 1), 4);
            Due.add(x, "*,*:0");
            x.reset(5, 5, 5, 5);
        }
    }

    /** Four conditions of five values with twelve rules, and no place of them like another table's. */
    private static void largest() {
        DecisionTableCompiler x = Due.table(Due.sizes(5, 5, 5, 5));
        for (int rule = 0; rule < 12; rule++) {
            String digit = "" + rule % 5;
            Due.add(x, "*," + digit + ",*," + (4 - rule % 5) + ":" + rule % 7);
        }
        for (int c = 0; c < 4; c++) {
            x.setCost(c, 2 + c);
            for (int v = 0; v < 5; v++) {
                x.setWeight(c, v, 9 - c - v);
            }
        }
        Due.due("snapshot", x.snapshot(), 12);
        x.reset(5, 5, 5, 5);
        for (int rule = 0; rule < 12; rule++) {
            Due.add(x, "0,*,0,*:9");
        }
        x.reset(2, 0, 0, 0);
        Due.due("restore", x.restore(), 12);
        Due.due("conditionCount", x.conditionCount(), 4);
        Due.due("caseCount", x.caseCount(), 625);
        Due.due("the lowest digit", x.valueIn(624, 3), 4);
        Due.due("a new match of the last value", x.matches(4), 1 << 0 | 1 << 5 | 1 << 10);
        for (int rule = 0; rule < 12; rule++) {
            Due.due("set 0 of rule " + rule, x.ruleSet(rule, 0), 31);
            Due.due("set 1 of rule " + rule, x.ruleSet(rule, 1), 1 << rule % 5);
            Due.due("set 2 of rule " + rule, x.ruleSet(rule, 2), 31);
            Due.due("set 3 of rule " + rule, x.ruleSet(rule, 3), 1 << 4 - rule % 5);
            Due.due("action of rule " + rule, x.ruleAction(rule), rule % 7);
        }
        for (int c = 0; c < 4; c++) {
            Due.due("cost of " + c, x.setCost(c, 1), 2 + c);
            for (int v = 0; v < 5; v++) {
                Due.due("weight " + v + " of " + c, x.setWeight(c, v, 1), 9 - c - v);
            }
        }
    }

    private static void replaced() {
        DecisionTableCompiler x = Due.table(Due.sizes(2, 2), "0,0:1");
        Due.due("snapshot", x.snapshot(), 1);
        Due.add(x, "1,1:2");
        Due.due("snapshot again", x.snapshot(), 2);
        x.reset(3, 0, 0, 0);
        Due.due("restore the later one", x.restore(), 2);
        x.reset(3, 0, 0, 0);
        Due.due("snapshot without rules", x.snapshot(), 0);
        Due.due("restore without rules", x.restore(), 0);
        Due.due("its cases", x.caseCount(), 3);
    }

    private static void keeps() {
        DecisionTableCompiler x = Due.table(Due.sizes(2, 2), "0,0:1");
        x.storeActions(0);
        x.append('1', 1);
        x.snapshot();
        x.putElement(0, 0, 6);
        x.allocate(1, 3, 2);
        Due.write(x, ",1:");
        x.restore();
        Due.due("the slots are as before", x.element(0, 0), 6);
        Due.due("the slots are as before", x.release(1), 1);
        Due.due("the buffer is as before", x.append('3', 1), 5);
        Due.due("the buffer is as before", x.addRule(), 1);
    }

    private static void trees() {
        DecisionTableCompiler x = Due.table(Due.sizes(2, 2), "0,0:1");
        x.compile();
        Due.due("a refused restore", x.restore(), -6);
        Due.due("keeps the tree", x.worstCost(), 2);
        x.snapshot();
        Due.due("a snapshot keeps the tree", x.worstCost(), 2);
        Due.due("restore", x.restore(), 1);
        Due.due("discards the tree", x.worstCost(), -7);
        x.compile();
        Due.due("compile after a restore", x.worstCost(), 2);
    }
}
