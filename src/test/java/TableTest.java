/** Promises 1 to 8: a new object, the conditions, weights, test costs and the default action. */
public final class TableTest {
    private static final int MIN = Integer.MIN_VALUE;
    private static final int MAX = Integer.MAX_VALUE;

    public static void main(String[] args) {
        newObject();
        resetAnswers();
        resetClears();
        resetKeeps();
        counts();
        everyValue();
        noValue();
        setWeight();
        setCost();
        setDefault();
        Due.close();
    }

    private static void newObject() {
        DecisionTableCompiler x = new DecisionTableCompiler();
        Due.due("new: conditionCount", x.conditionCount(), 2);
        Due.due("new: caseCount", x.caseCount(), 4);
        Due.due("new: ruleCount", x.ruleCount(), 0);
        Due.due("new: gapCount", x.gapCount(), 4);
        Due.due("new: gapWeight", x.gapWeight(), 4);
        Due.due("new: conflictCount", x.conflictCount(), 0);
        Due.due("new: clearInput", x.clearInput(), 0);
        Due.due("new: expectedCost", x.expectedCost(), DecisionTableCompiler.NO_VALUE);
        Due.due("new: worstCost", x.worstCost(), -7);
        Due.due("new: restore", x.restore(), -6);
        for (int slot = 0; slot < 4; slot++) {
            Due.due("new: release(" + slot + ")", x.release(slot), 0);
        }
        Due.due("new: previous cost", x.setCost(1, 2), 1);
        Due.due("new: previous weight", x.setWeight(1, 1, 2), 1);
        Due.due("new: previous default", x.setDefault(0), -6);
    }

    private static void resetAnswers() {
        int[] numbers = {MIN, -1, 0, 1, 2, 3, 5, 6, MAX};
        for (int a : numbers) {
            for (int b : numbers) {
                DecisionTableCompiler x = new DecisionTableCompiler();
                for (int c : numbers) {
                    for (int d : numbers) {
                        String call = "reset(" + a + ", " + b + ", " + c + ", " + d + ")";
                        Due.due(call, x.reset(a, b, c, d), casesOf(new int[] {a, b, c, d}));
                    }
                }
            }
        }
    }

    private static int casesOf(int[] sizes) {
        int cases = 1;
        boolean ended = false;
        for (int i = 0; i < 4; i++) {
            if (sizes[i] == 0 && i > 0) {
                ended = true;
            } else if (ended || sizes[i] < 2 || sizes[i] > 5) {
                return -1;
            } else {
                cases *= sizes[i];
            }
        }
        return cases;
    }

    private static void resetClears() {
        DecisionTableCompiler x = Due.table(Due.sizes(2, 2), "0,0:1", "*,*:2");
        x.setDefault(7);
        x.setWeight(0, 1, 5);
        x.setCost(1, 9);
        x.compile();
        Due.due("a refused reset", x.reset(2, 6, 0, 0), -1);
        Due.due("a refused reset keeps the tree", x.worstCost(), 10);
        Due.due("a refused reset keeps the rules", x.ruleCount(), 2);
        Due.due("a refused reset keeps the conditions", x.caseCount(), 4);
        Due.due("reset", x.reset(2, 2, 0, 0), 4);
        Due.due("reset discards the tree", x.worstCost(), -7);
        Due.due("reset: ruleCount", x.ruleCount(), 0);
        Due.due("reset: gapCount", x.gapCount(), 4);
        Due.due("reset: gapWeight", x.gapWeight(), 4);
        Due.due("reset: action", x.action(0), -6);
        Due.due("reset: weight", x.setWeight(0, 1, 1), 1);
        Due.due("reset: cost", x.setCost(1, 1), 1);
        Due.due("reset: default", x.setDefault(-1), -6);
    }

    private static void resetKeeps() {
        DecisionTableCompiler x = Due.table(Due.sizes(2, 2), "0,0:1");
        x.snapshot();
        x.append('*', 1);
        x.allocate(2, 3, 5);
        x.putElement(2, 4, 77);
        Due.due("reset", x.reset(3, 0, 0, 0), 3);
        Due.due("reset keeps the slots", x.element(2, 4), 77);
        Due.due("reset keeps the input", x.append(':', 1), 2);
        Due.due("reset keeps the input", Due.add(x, "4"), 0);
        Due.due("reset keeps the snapshot", x.restore(), 1);
        Due.due("the snapshot is as it was", x.caseCount(), 4);
    }

    private static void counts() {
        DecisionTableCompiler x = new DecisionTableCompiler();
        x.reset(5, 0, 0, 0);
        Due.due("conditionCount of 1", x.conditionCount(), 1);
        Due.due("caseCount of 5", x.caseCount(), 5);
        x.reset(5, 4, 3, 0);
        Due.due("conditionCount of 3", x.conditionCount(), 3);
        Due.due("caseCount of 5 4 3", x.caseCount(), 60);
        x.reset(2, 3, 4, 5);
        Due.due("conditionCount of 4", x.conditionCount(), 4);
        Due.due("caseCount of 2 3 4 5", x.caseCount(), 120);
    }

    private static void everyValue() {
        DecisionTableCompiler x = new DecisionTableCompiler();
        x.reset(2, 3, 4, 5);
        int number = 0;
        for (int a = 0; a < 2; a++) {
            for (int b = 0; b < 3; b++) {
                for (int c = 0; c < 4; c++) {
                    for (int d = 0; d < 5; d++) {
                        Due.due("valueIn(" + number + ", 0)", x.valueIn(number, 0), a);
                        Due.due("valueIn(" + number + ", 1)", x.valueIn(number, 1), b);
                        Due.due("valueIn(" + number + ", 2)", x.valueIn(number, 2), c);
                        Due.due("valueIn(" + number + ", 3)", x.valueIn(number, 3), d);
                        number++;
                    }
                }
            }
        }
    }

    private static void noValue() {
        DecisionTableCompiler x = new DecisionTableCompiler();
        x.reset(2, 3, 4, 5);
        for (int bad : new int[] {MIN, -1, 120, MAX}) {
            Due.due("valueIn of no case", x.valueIn(bad, 0), -5);
            Due.due("valueIn: the case is checked first", x.valueIn(bad, 9), -5);
        }
        for (int bad : new int[] {MIN, -1, 4, MAX}) {
            Due.due("valueIn of no condition", x.valueIn(0, bad), -2);
        }
        x.reset(3, 0, 0, 0);
        Due.due("valueIn of a condition that is not there", x.valueIn(2, 1), -2);
        Due.due("valueIn of the last case", x.valueIn(2, 0), 2);
    }

    private static void setWeight() {
        DecisionTableCompiler x = Due.table(Due.sizes(2, 3), "0,*:1");
        Due.due("setWeight", x.setWeight(1, 2, 9), 1);
        Due.due("setWeight again", x.setWeight(1, 2, 4), 9);
        Due.due("setWeight to the same", x.setWeight(1, 2, 4), 4);
        Due.due("gapWeight shows it", x.gapWeight(), 6);
        Due.due("setWeight to 0", x.setWeight(1, 0, 0), 1);
        Due.due("setWeight to 0 again", x.setWeight(1, 0, 0), 0);
        Due.due("setWeight to 0, the second", x.setWeight(1, 1, 0), 1);
        Due.due("setWeight to 0, the last", x.setWeight(1, 2, 0), -1);
        Due.due("setWeight of one that is 0 to 0", x.setWeight(1, 1, 0), 0);
        Due.due("a refused weight changes nothing", x.setWeight(1, 2, 1), 4);
        for (int bad : new int[] {MIN, -1, 10, MAX}) {
            Due.due("setWeight to a wrong weight", x.setWeight(0, 0, bad), -1);
            Due.due("setWeight of a wrong condition", x.setWeight(bad, 0, 1), -2);
            Due.due("setWeight of a wrong value", x.setWeight(0, bad, 1), -2);
            Due.due("setWeight: the condition is checked first", x.setWeight(bad, 0, 10), -2);
            Due.due("setWeight: the value is checked first", x.setWeight(0, bad, -1), -2);
        }
        Due.due("setWeight of condition 2 of 2", x.setWeight(2, 0, 1), -2);
        Due.due("setWeight of value 2 of 2", x.setWeight(0, 2, 1), -2);
        Due.due("setWeight of value 3 of 3", x.setWeight(1, 3, 1), -2);
        Due.due("setWeight of value 3 of 3, all 0", x.setWeight(1, 3, 0), -2);
        x.compile();
        x.setWeight(0, 0, 10);
        x.setWeight(0, 2, 1);
        Due.due("a refused weight keeps the tree", x.sharedNodeCount(), 3);
        Due.due("the same weight", x.setWeight(0, 0, 1), 1);
        Due.due("the same weight discards the tree", x.sharedNodeCount(), -7);
    }

    private static void setCost() {
        DecisionTableCompiler x = Due.table(Due.sizes(2, 3), "0,*:1");
        Due.due("setCost", x.setCost(1, 9), 1);
        Due.due("setCost again", x.setCost(1, 5), 9);
        Due.due("setCost of the other", x.setCost(0, 2), 1);
        for (int bad : new int[] {MIN, -1, 0, 10, MAX}) {
            Due.due("setCost to a wrong cost", x.setCost(1, bad), -1);
        }
        for (int bad : new int[] {MIN, -1, 2, 4, MAX}) {
            Due.due("setCost of a wrong condition", x.setCost(bad, 1), -2);
            Due.due("setCost: the condition is checked first", x.setCost(bad, 10), -2);
        }
        Due.due("a refused cost changes nothing", x.setCost(1, 5), 5);
        x.compile();
        x.setCost(0, 0);
        x.setCost(2, 1);
        Due.due("a refused cost keeps the tree", x.worstCost(), 2);
        Due.due("the same cost", x.setCost(0, 2), 2);
        Due.due("the same cost discards the tree", x.worstCost(), -7);
    }

    private static void setDefault() {
        DecisionTableCompiler x = Due.table(Due.sizes(2, 2), "0,*:1");
        Due.due("setDefault(0)", x.setDefault(0), -6);
        Due.due("action by default", x.action(2), 0);
        Due.due("action by rule", x.action(1), 1);
        Due.due("a case with a default action is a gap", x.gapCount(), 2);
        Due.due("setDefault(9)", x.setDefault(9), 0);
        Due.due("setDefault(-1)", x.setDefault(-1), 9);
        Due.due("setDefault(-1) again", x.setDefault(-1), -6);
        Due.due("action by no default", x.action(2), -6);
        for (int bad : new int[] {MIN, -2, -6, 10, MAX}) {
            Due.due("setDefault(" + bad + ")", x.setDefault(bad), -1);
        }
        x.compile();
        x.setDefault(10);
        Due.due("a refused default keeps the tree", x.worstCost(), 1);
        Due.due("the same default", x.setDefault(-1), -6);
        Due.due("the same default discards the tree", x.worstCost(), -7);
    }
}
