/** Promises 13 to 23: rules, what they match, and gaps. */
public final class RulesTest {
    private static final int MIN = Integer.MIN_VALUE;
    private static final int MAX = Integer.MAX_VALUE;

    public static void main(String[] args) {
        removeRule();
        ruleFaults();
        ruleCases();
        matches();
        actions();
        gaps();
        gapWeight();
        twelveRules();
        Due.close();
    }

    private static void removeRule() {
        DecisionTableCompiler x = Due.table(Due.sizes(2, 2), "0,0:0", "0,1:1", "1,0:2", "1,1:3");
        x.compile();
        for (int bad : new int[] {MIN, -1, 4, MAX}) {
            Due.due("removeRule(" + bad + ")", x.removeRule(bad), -3);
        }
        Due.due("refused: the tree stays", x.worstCost(), 2);
        Due.due("removeRule(1)", x.removeRule(1), 3);
        Due.due("removeRule discards the tree", x.worstCost(), -7);
        Due.due("rule 0 stays", x.ruleAction(0), 0);
        Due.due("rule 2 is rule 1", x.ruleAction(1), 2);
        Due.due("rule 2 is rule 1", x.ruleSet(1, 0), 2);
        Due.due("rule 3 is rule 2", x.ruleAction(2), 3);
        Due.due("there is no rule 3", x.ruleAction(3), -3);
        Due.due("case 1 is a gap now", x.firstMatch(1), -6);
        Due.due("case 3 is matched by rule 2", x.matches(3), 4);
        Due.due("remove the last", x.removeRule(2), 2);
        Due.due("remove the first", x.removeRule(0), 1);
        Due.due("remove the only one", x.removeRule(0), 0);
        Due.due("remove of none", x.removeRule(0), -3);
        Due.due("ruleCount", x.ruleCount(), 0);
        Due.due("all are gaps", x.gapCount(), 4);
        DecisionTableCompiler y = Due.table(Due.sizes(2, 3, 4, 5), "*,*,*,*:0", "0,1,2,3:1", "1,2,3,4:2");
        y.removeRule(0);
        for (int rule = 0; rule < 2; rule++) {
            for (int c = 0; c < 4; c++) {
                Due.due("a moved set", y.ruleSet(rule, c), 1 << c + rule);
            }
        }
    }

    private static void ruleFaults() {
        DecisionTableCompiler x = Due.table(Due.sizes(2, 3), "0,12:7", "1,0:8");
        Due.due("ruleCount", x.ruleCount(), 2);
        Due.due("ruleSet(0, 1)", x.ruleSet(0, 1), 6);
        Due.due("ruleSet(1, 0)", x.ruleSet(1, 0), 2);
        Due.due("ruleAction(0)", x.ruleAction(0), 7);
        Due.due("ruleAction(1)", x.ruleAction(1), 8);
        for (int bad : new int[] {MIN, -1, 2, 12, MAX}) {
            Due.due("ruleSet of no rule", x.ruleSet(bad, 0), -3);
            Due.due("ruleSet: the rule is checked first", x.ruleSet(bad, 2), -3);
            Due.due("ruleSet of no condition", x.ruleSet(0, bad), -2);
            Due.due("ruleAction of no rule", x.ruleAction(bad), -3);
            Due.due("ruleCases of no rule", x.ruleCases(bad), -3);
        }
    }

    private static void ruleCases() {
        DecisionTableCompiler x = Due.table(Due.sizes(5, 4, 3, 2), "*,*,*,*:0", "04,123,0,1:0", "3,3,2,1:0");
        Due.due("ruleCases of stars", x.ruleCases(0), 120);
        Due.due("ruleCases", x.ruleCases(1), 6);
        Due.due("ruleCases of one", x.ruleCases(2), 1);
    }

    private static void matches() {
        DecisionTableCompiler x = Due.table(Due.sizes(2, 3), "0,*:1", "*,01:2", "*,1:3");
        int[] first = {0, 0, 0, 1, 1, -6};
        int[] all = {3, 7, 1, 2, 6, 0};
        for (int number = 0; number < 6; number++) {
            Due.due("firstMatch(" + number + ")", x.firstMatch(number), first[number]);
            Due.due("matches(" + number + ")", x.matches(number), all[number]);
        }
        for (int bad : new int[] {MIN, -1, 6, MAX}) {
            Due.due("firstMatch of no case", x.firstMatch(bad), -5);
            Due.due("matches of no case", x.matches(bad), -5);
            Due.due("action of no case", x.action(bad), -5);
        }
        DecisionTableCompiler empty = new DecisionTableCompiler();
        Due.due("firstMatch without rules", empty.firstMatch(0), -6);
        Due.due("matches without rules", empty.matches(3), 0);
        Due.due("no case without rules", empty.firstMatch(4), -5);
    }

    private static void actions() {
        DecisionTableCompiler x = Due.table(Due.sizes(2, 3), "0,*:1", "*,01:2", "*,1:3");
        int[] actions = {1, 1, 1, 2, 2, -6};
        for (int number = 0; number < 6; number++) {
            Due.due("action(" + number + ")", x.action(number), actions[number]);
        }
        x.setDefault(0);
        Due.due("the default action", x.action(5), 0);
        Due.due("a default is no match", x.firstMatch(5), -6);
        Due.due("a default is no match", x.matches(5), 0);
        Due.due("rules come first", x.action(4), 2);
    }

    private static void gaps() {
        DecisionTableCompiler x = Due.table(Due.sizes(3, 3), "0,0:1", "1,12:1", "2,1:1");
        int[] gaps = {1, 2, 3, 6, 8};
        Due.due("gapCount", x.gapCount(), 5);
        for (int i = 0; i < 5; i++) {
            Due.due("gap(" + i + ")", x.gap(i), gaps[i]);
        }
        for (int bad : new int[] {MIN, -1, 5, MAX}) {
            Due.due("gap(" + bad + ")", x.gap(bad), -6);
        }
        DecisionTableCompiler y = Due.table(Due.sizes(2, 2), "1,*:1");
        Due.due("the first case is a gap", y.gap(0), 0);
        Due.due("the second case is a gap", y.gap(1), 1);
        Due.due("the last case is none", y.gap(2), -6);
        x.setDefault(3);
        Due.due("gaps with a default", x.gapCount(), 5);
        Due.due("a gap with a default", x.gap(4), 8);
        Due.add(x, "*,*:0");
        Due.due("no gaps", x.gapCount(), 0);
        Due.due("no gap", x.gap(0), -6);
        Due.due("no weight", x.gapWeight(), 0);
    }

    private static void gapWeight() {
        DecisionTableCompiler x = Due.table(Due.sizes(3, 2), "0,0:1");
        x.setWeight(0, 0, 2);
        x.setWeight(0, 1, 0);
        x.setWeight(0, 2, 5);
        x.setWeight(1, 0, 7);
        x.setWeight(1, 1, 3);
        Due.due("gapWeight", x.gapWeight(), 2 * 3 + 5 * 7 + 5 * 3);
        x.setDefault(1);
        Due.due("gapWeight with a default", x.gapWeight(), 56);
        x.removeRule(0);
        Due.add(x, "*,1:1");
        Due.due("gapWeight with the first case, without the last", x.gapWeight(), 2 * 7 + 5 * 7);
        x.removeRule(0);
        Due.due("gapWeight of all", x.gapWeight(), 7 * 10);
        DecisionTableCompiler y = Due.table(Due.sizes(5, 5, 5, 5));
        for (int c = 0; c < 4; c++) {
            for (int v = 0; v < 5; v++) {
                y.setWeight(c, v, 9);
            }
        }
        Due.due("the highest gapWeight", y.gapWeight(), 45L * 45 * 45 * 45);
    }

    private static void twelveRules() {
        DecisionTableCompiler x = new DecisionTableCompiler();
        for (int i = 0; i < 12; i++) {
            Due.add(x, i == 11 ? "*,*:9" : "0,*:" + i % 10);
        }
        Due.due("matches of 12", x.matches(0), 4095);
        Due.due("matches of the last", x.matches(2), 2048);
        Due.due("firstMatch of the last", x.firstMatch(2), 11);
    }
}
