/** Promises 24 to 28: conflicts, shadowed rules and merges. */
public final class RelationsTest {
    private static final int MIN = Integer.MIN_VALUE;
    private static final int MAX = Integer.MAX_VALUE;

    public static void main(String[] args) {
        conflicts();
        conflictFaults();
        allConflicts();
        shadowed();
        shadowedTogether();
        removeShadowed();
        merge();
        mergeOrder();
        mergeKeeps();
        Due.close();
    }

    private static void conflicts() {
        DecisionTableCompiler x = Due.table(Due.sizes(2, 3), "1,12:1", "*,2:2", "0,*:1", "1,2:1", "0,0:3");
        int[][] due = {{0, 1, 5}, {1, 2, 2}, {1, 3, 5}, {2, 4, 0}};
        Due.due("conflictCount", x.conflictCount(), 4);
        for (int i = 0; i < 4; i++) {
            for (int what = 0; what < 3; what++) {
                Due.due("conflict(" + i + ", " + what + ")", x.conflict(i, what), due[i][what]);
            }
        }
        Due.due("conflict(4, 0)", x.conflict(4, 0), -6);
    }

    private static void conflictFaults() {
        DecisionTableCompiler x = Due.table(Due.sizes(2, 2), "0,*:1", "*,1:2");
        Due.due("conflictCount", x.conflictCount(), 1);
        Due.due("the lowest common case", x.conflict(0, 2), 1);
        for (int bad : new int[] {MIN, -1, 3, MAX}) {
            Due.due("conflict: a wrong what", x.conflict(0, bad), -1);
            Due.due("conflict: what is checked first", x.conflict(1, bad), -1);
            Due.due("conflict: what is checked first", x.conflict(-1, bad), -1);
        }
        for (int bad : new int[] {MIN, -1, 1, MAX}) {
            Due.due("conflict: no such", x.conflict(bad, 0), -6);
            Due.due("conflict: no such", x.conflict(bad, 2), -6);
        }
        DecisionTableCompiler same = Due.table(Due.sizes(2, 2), "0,*:1", "*,1:1");
        Due.due("the same action is no conflict", same.conflictCount(), 0);
        DecisionTableCompiler apart = Due.table(Due.sizes(2, 2), "0,1:1", "0,0:2");
        Due.due("rules apart are no conflict", apart.conflictCount(), 0);
        DecisionTableCompiler none = new DecisionTableCompiler();
        Due.due("no rules, no conflict", none.conflictCount(), 0);
        Due.due("no rules, no conflict", none.conflict(0, 0), -6);
    }

    private static void allConflicts() {
        DecisionTableCompiler x = Due.table(Due.sizes(2, 2, 5), "*,1,34:0", "*,*,*:1", "*,*,*:2", "*,*,*:3", "*,*,*:4",
                "*,*,*:5", "*,*,*:6", "*,*,*:7", "*,*,*:8", "*,*,*:9", "*,*,*:0", "1,*,24:1");
        int index = 0;
        for (int low = 0; low < 12; low++) {
            for (int high = low + 1; high < 12; high++) {
                boolean same = (low == 0 && high == 10) || (low == 1 && high == 11);
                if (same) {
                    continue;
                }
                int lowest = low == 0 ? (high == 11 ? 19 : 8) : (high == 11 ? 12 : 0);
                Due.due("lower of " + index, x.conflict(index, 0), low);
                Due.due("higher of " + index, x.conflict(index, 1), high);
                Due.due("case of " + index, x.conflict(index, 2), lowest);
                index++;
            }
        }
        Due.due("conflictCount", x.conflictCount(), index);
        Due.due("64 conflicts", index, 64);
    }

    private static void shadowed() {
        DecisionTableCompiler x = Due.table(Due.sizes(2, 3), "0,*:1", "0,12:1", "*,2:2", "1,2:3");
        int[] due = {0, 1, 0, 1};
        for (int rule = 0; rule < 4; rule++) {
            Due.due("isShadowed(" + rule + ")", x.isShadowed(rule), due[rule]);
        }
        for (int bad : new int[] {MIN, -1, 4, MAX}) {
            Due.due("isShadowed(" + bad + ")", x.isShadowed(bad), -3);
        }
        x.setWeight(0, 1, 0);
        Due.due("a weight of 0 is no shadow", x.isShadowed(2), 0);
    }

    private static void shadowedTogether() {
        DecisionTableCompiler x = Due.table(Due.sizes(2, 3), "0,1:1", "*,02:2", "0,*:3", "1,1:4", "*,*:5");
        int[] due = {0, 0, 1, 0, 1};
        for (int rule = 0; rule < 5; rule++) {
            Due.due("isShadowed(" + rule + ")", x.isShadowed(rule), due[rule]);
        }
        DecisionTableCompiler later = Due.table(Due.sizes(2, 2), "0,0:1", "*,*:2");
        Due.due("a later rule is no shadow", later.isShadowed(0), 0);
    }

    private static void removeShadowed() {
        DecisionTableCompiler x = Due.table(Due.sizes(2, 3), "0,1:1", "*,02:2", "0,*:3", "1,1:4", "*,*:5", "0,0:6");
        x.storeActions(0);
        x.compile();
        Due.due("removeShadowed", x.removeShadowed(), 3);
        Due.due("removeShadowed discards the tree", x.worstCost(), -7);
        Due.due("three are left", x.ruleCount(), 3);
        Due.due("rule 0", x.ruleAction(0), 1);
        Due.due("rule 1", x.ruleAction(1), 2);
        Due.due("rule 2", x.ruleAction(2), 4);
        Due.due("rule 2", x.ruleSet(2, 0), 2);
        Due.due("the actions are the same", x.compareActions(0), -6);
        x.compile();
        Due.due("removeShadowed of none", x.removeShadowed(), 0);
        Due.due("then the tree stays", x.worstCost(), 2);
        DecisionTableCompiler none = new DecisionTableCompiler();
        none.compile();
        Due.due("removeShadowed without rules", none.removeShadowed(), 0);
        Due.due("then the tree stays", none.worstCost(), 0);
    }

    private static void rule(DecisionTableCompiler x, int rule, int first, int second, int action) {
        Due.due("set 0 of rule " + rule, x.ruleSet(rule, 0), first);
        Due.due("set 1 of rule " + rule, x.ruleSet(rule, 1), second);
        Due.due("action of rule " + rule, x.ruleAction(rule), action);
    }

    private static void merge() {
        DecisionTableCompiler x = Due.table(Due.sizes(3, 3), "0,0:1", "0,2:1", "0,1:2", "1,1:2", "1,0:2", "2,2:2");
        x.storeActions(1);
        x.compile();
        Due.due("mergeRules", x.mergeRules(), 4);
        Due.due("mergeRules discards the tree", x.worstCost(), -7);
        rule(x, 0, 1, 5, 1);
        rule(x, 1, 3, 2, 2);
        rule(x, 2, 2, 1, 2);
        rule(x, 3, 4, 4, 2);
        Due.due("the actions are the same", x.compareActions(1), -6);
        Due.due("the merged rule matches", x.matches(2), 1);
        Due.due("no rule matches as before", x.matches(5), 0);
    }

    /** A merge makes an earlier pair mergeable: the look begins with rule 0 again. */
    private static void mergeOrder() {
        DecisionTableCompiler x = Due.table(Due.sizes(3, 3), "01,0:1", "0,0:1", "1,0:1", "01,1:1", "2,2:1", "2,2:1");
        Due.due("mergeRules", x.mergeRules(), 2);
        rule(x, 0, 3, 3, 1);
        rule(x, 1, 4, 4, 1);
        DecisionTableCompiler y = Due.table(Due.sizes(3, 3), "01,0:1", "0,1:1", "1,1:1");
        Due.due("a late merge and an early one", y.mergeRules(), 1);
        rule(y, 0, 3, 3, 1);
        DecisionTableCompiler z = Due.table(Due.sizes(3, 3), "0,0:1", "1,0:1", "1,1:1", "0,1:1");
        Due.due("the lowest pair first", z.mergeRules(), 1);
        rule(z, 0, 3, 3, 1);
        DecisionTableCompiler w = Due.table(Due.sizes(3, 3), "0,0:1", "0,1:1", "1,1:1");
        Due.due("the lowest pair first", w.mergeRules(), 2);
        rule(w, 0, 1, 3, 1);
        rule(w, 1, 2, 2, 1);
        DecisionTableCompiler same = new DecisionTableCompiler();
        for (int i = 0; i < 12; i++) {
            Due.add(same, "0,1:6");
        }
        Due.due("twelve that are the same", same.mergeRules(), 1);
        rule(same, 0, 1, 2, 6);
    }

    private static void mergeKeeps() {
        DecisionTableCompiler x = Due.table(Due.sizes(2, 2), "0,0:1", "0,1:2", "0,0:1", "1,1:1");
        x.compile();
        Due.due("other actions, or two differences", x.mergeRules(), 4);
        Due.due("then the tree stays", x.worstCost(), 2);
        DecisionTableCompiler none = new DecisionTableCompiler();
        none.compile();
        Due.due("mergeRules without rules", none.mergeRules(), 0);
        Due.due("then the tree stays", none.worstCost(), 0);
    }
}
