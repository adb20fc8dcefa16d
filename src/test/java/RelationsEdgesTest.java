/** The boundary cases of the relations of rules, and of promises 24 to 28. */
public final class RelationsEdgesTest extends Edges {
    public static void main(String[] args) throws Exception {
        runAll(RelationsEdgesTest.class);
    }

    @Sentence(promise = 0, says = "Two rules overlap if some case is matched by both.")
    private static void overlapInOneCase() {
        DecisionTableCompiler x = table(5, 5, 5, 5, "01,12,23,34:0", "1234,2340,3401,4012:1");
        due("conflictCount()", x.conflictCount(), 1);
        due("their only case", x.conflict(0, 2), 1 * 125 + 2 * 25 + 3 * 5 + 4);
        DecisionTableCompiler y = table(5, 5, 5, 5, "0,0,0,01:0", "0,0,0,234:1", "1,*,*,*:2", "0,1,*,*:3", "0,0,1,*:4");
        due("one condition apart is enough", y.conflictCount(), 0);
    }

    @Sentence(promise = 0, says = "They conflict if they overlap and have")
    private static void conflictNeedsBoth() {
        due("other actions", table(2, 2, 0, 0, "0,*:0", "*,0:1").conflictCount(), 1);
        due("the same action", table(2, 2, 0, 0, "0,*:1", "*,0:1").conflictCount(), 0);
        due("no overlap", table(2, 2, 0, 0, "0,*:0", "1,*:1").conflictCount(), 0);
        due("a shadowed rule conflicts too", table(2, 2, 0, 0, "*,*:0", "1,1:1").conflictCount(), 1);
        DecisionTableCompiler x = table(2, 2, 0, 0, "0,*:0");
        x.setDefault(1);
        due("the default action is no rule", x.conflictCount(), 0);
    }

    @Sentence(promise = 0, says = "A rule is shadowed if each case that it matches is also matched by some earlier rule.")
    private static void shadowsComeFromEarlierRules() {
        DecisionTableCompiler x = table(2, 3, 0, 0, "0,0:1", "0,0:1", "0,01:2", "*,*:3", "1,2:3");
        int[] shadowed = {0, 1, 0, 0, 1};
        for (int rule = 0; rule < 5; rule++) {
            due("isShadowed(" + rule + ")", x.isShadowed(rule), shadowed[rule]);
        }
    }

    @Sentence(promise = 0, says = "A rule can be shadowed by several earlier ones together.")
    private static void shadowedByAllTogether() {
        String[] rules = new String[12];
        for (int rule = 0; rule < 11; rule++) {
            rules[rule] = rule / 5 + "," + rule % 5 + ":0";
        }
        rules[11] = "01,*:1";
        DecisionTableCompiler x = table(5, 5, 0, 0, rules);
        due("two of three rows of ten", x.isShadowed(11), 1);
        x.removeRule(9);
        due("a case is missing", x.isShadowed(10), 0);
    }

    @Sentence(promise = 0, says = "Rules that are the same are merged, too")
    private static void sameRulesMerge() {
        DecisionTableCompiler x = table(2, 2, 2, 2, "0,*,1,01:5", "00,10,1,*:5");
        due("mergeRules()", x.mergeRules(), 1);
        due("set 0", x.ruleSet(0, 0), 1);
        due("set 1", x.ruleSet(0, 1), 3);
        due("set 2", x.ruleSet(0, 2), 2);
        due("set 3", x.ruleSet(0, 3), 3);
        due("action", x.ruleAction(0), 5);
    }

    @Sentence(promise = 0, says = "behind a merge, the look for the next one begins with rule 0 again.")
    private static void lookBeginsAgain() {
        DecisionTableCompiler x = table(3, 3, 0, 0, "01,0:1", "0,1:1", "1,1:1");
        due("a later merge makes an earlier one", x.mergeRules(), 1);
        due("set 0", x.ruleSet(0, 0), 3);
        due("set 1", x.ruleSet(0, 1), 3);
        DecisionTableCompiler y = table(3, 3, 0, 0, "2,2:2", "01,0:1", "0,1:1", "1,1:1", "2,01:1");
        due("then a later one that the earlier one made", y.mergeRules(), 2);
        due("set 0", y.ruleSet(1, 0), 7);
        due("set 1", y.ruleSet(1, 1), 3);
    }

    @Sentence(promise = 24, says = "Returns the number of conflicts, that is, of pairs of rules that conflict.")
    private static void fewestAndMostConflicts() {
        due("without rules", fresh().conflictCount(), 0);
        due("with one rule", table(2, 2, 0, 0, "*,*:0").conflictCount(), 0);
        DecisionTableCompiler x = fresh();
        for (int rule = 0; rule < 12; rule++) {
            Due.add(x, "*,*:" + rule % 10);
        }
        due("twelve rules with ten actions", x.conflictCount(), 64);
        due("the same pair is counted once", table(2, 2, 0, 0, "*,*:0", "*,*:1").conflictCount(), 1);
    }

    @Sentence(promise = 25, says = "The conflicts are ordered by their lower rule, then by their higher rule.")
    private static void orderOfConflicts() {
        DecisionTableCompiler x = fresh();
        for (int rule = 0; rule < 4; rule++) {
            Due.add(x, "*,*:" + rule);
        }
        int[][] pairs = {{0, 1}, {0, 2}, {0, 3}, {1, 2}, {1, 3}, {2, 3}};
        for (int index = 0; index < 6; index++) {
            due("the lower of " + index, x.conflict(index, 0), pairs[index][0]);
            due("the higher of " + index, x.conflict(index, 1), pairs[index][1]);
        }
    }

    @Sentence(promise = 25, says = "0 for the lower rule, 1 for the higher rule, 2 for the lowest case that both match")
    private static void lowestCommonCase() {
        DecisionTableCompiler x = table(5, 5, 5, 5, "*,*,*,*:0", "*,*,*,*:1", "4,4,4,4:2");
        due("the first case", x.conflict(0, 2), 0);
        due("the last case", x.conflict(1, 2), 624);
        due("the lower rule", x.conflict(2, 0), 1);
        due("the higher rule", x.conflict(2, 1), 2);
        DecisionTableCompiler y = table(2, 3, 0, 0, "*,*:0", "1,*:1", "*,1:2");
        due("both match it, though an earlier rule does too", y.conflict(2, 2), 4);
    }

    @Sentence(promise = 25, says = "BAD_ARGUMENT if what is out of range (checked first)")
    private static void conflictOfAWrongKind() {
        DecisionTableCompiler x = table(2, 2, 0, 0, "*,*:0", "*,*:1");
        for (int what : numbers(MIN, -1, 3, 4, MAX)) {
            for (int index : numbers(MIN, -1, 0, 1, MAX)) {
                due("conflict(" + index + ", " + what + ")", x.conflict(index, what), BAD_ARGUMENT);
            }
            due("without rules", fresh().conflict(0, what), BAD_ARGUMENT);
        }
    }

    @Sentence(promise = 25, says = "NONE if there is no such conflict.")
    private static void noSuchConflict() {
        DecisionTableCompiler x = table(2, 2, 0, 0, "*,*:0", "*,*:1");
        for (int what = 0; what <= 2; what++) {
            for (int index : numbers(MIN, -1, 1, 2, MAX)) {
                due("conflict(" + index + ", " + what + ")", x.conflict(index, what), NONE);
            }
            due("without rules", fresh().conflict(0, what), NONE);
        }
        DecisionTableCompiler most = fresh();
        for (int rule = 0; rule < 12; rule++) {
            Due.add(most, "*,*:" + rule % 10);
        }
        due("the last of 64", most.conflict(63, 0), 10);
        due("the last of 64", most.conflict(63, 1), 11);
        due("behind it", most.conflict(64, 0), NONE);
    }

    @Sentence(promise = 26, says = "Returns 1 or 0")
    private static void firstAndLastRule() {
        DecisionTableCompiler x = fresh();
        for (int rule = 0; rule < 12; rule++) {
            Due.add(x, "1,1:" + rule % 10);
        }
        due("the first", x.isShadowed(0), 0);
        for (int rule = 1; rule < 12; rule++) {
            due("isShadowed(" + rule + ")", x.isShadowed(rule), 1);
        }
        x.setDefault(3);
        due("a default does not shadow", table(2, 2, 0, 0, "0,0:3").isShadowed(0), 0);
        DecisionTableCompiler y = table(2, 2, 0, 0, "0,0:3", "*,0:3");
        y.setWeight(0, 1, 0);
        due("one case alone, of weight 0, is left to it", y.isShadowed(1), 0);
    }

    @Sentence(promise = 26, says = "NO_SUCH_RULE.")
    private static void shadowOfNoRule() {
        DecisionTableCompiler x = withRules(2);
        for (int rule : numbers(MIN, -1, 2, 11, 12, 32, MAX)) {
            due("isShadowed(" + rule + ")", x.isShadowed(rule), NO_SUCH_RULE);
        }
        due("of a new object", fresh().isShadowed(0), NO_SUCH_RULE);
        due("behind twelve", withRules(12).isShadowed(12), NO_SUCH_RULE);
    }

    @Sentence(promise = 27, says = "Deletes all shadowed rules. The actions of the cases do not change.")
    private static void removeShadowedAtOnce() {
        DecisionTableCompiler x = table(2, 3, 0, 0, "0,0:1", "0,0:2", "0,12:3", "0,*:4", "*,1:5", "1,1:6", "*,*:7", "0,1:8");
        x.setDefault(9);
        x.storeActions(0);
        due("removeShadowed()", x.removeShadowed(), 4);
        int[] left = {1, 3, 5, 7};
        for (int rule = 0; rule < 4; rule++) {
            due("ruleAction(" + rule + ")", x.ruleAction(rule), left[rule]);
        }
        due("ruleCount()", x.ruleCount(), 4);
        due("compareActions(0)", x.compareActions(0), NONE);
    }

    @Sentence(promise = 27, says = "Discards the tree if a rule was deleted.")
    private static void removeShadowedAndTheTree() {
        DecisionTableCompiler x = table(2, 2, 0, 0, "*,*:1", "0,0:1");
        x.compile();
        due("removeShadowed()", x.removeShadowed(), 1);
        due("the tree is discarded", x.worstCost(), NOT_COMPILED);
        x.compile();
        due("again", x.removeShadowed(), 0);
        due("the tree stays", x.worstCost(), 0);
        DecisionTableCompiler none = fresh();
        none.compile();
        due("without rules", none.removeShadowed(), 0);
        due("the tree stays", none.worstCost(), 0);
    }

    @Sentence(promise = 27, says = "Returns the number of rules that were deleted.")
    private static void fewestAndMostDeleted() {
        due("without rules", fresh().removeShadowed(), 0);
        DecisionTableCompiler x = fresh();
        for (int rule = 0; rule < 12; rule++) {
            Due.add(x, "*,*:" + rule % 10);
        }
        due("all but the first", x.removeShadowed(), 11);
        due("ruleCount()", x.ruleCount(), 1);
        due("ruleAction(0)", x.ruleAction(0), 0);
        due("again", x.removeShadowed(), 0);
        due("a rule has room", Due.add(x, "0,0:3"), 1);
    }

    @Sentence(promise = 28, says = "with the same action whose sets differ for at most one condition")
    private static void differencesOfPairs() {
        due("no difference", table(2, 2, 2, 2, "0,0,0,0:1", "0,0,0,0:1").mergeRules(), 1);
        String[] one = {"1,0,0,0:1", "0,1,0,0:1", "0,0,1,0:1", "0,0,0,1:1", "*,0,0,0:1", "0,0,0,*:1"};
        for (String rule : one) {
            due("one difference: " + rule, table(2, 2, 2, 2, "0,0,0,0:1", rule).mergeRules(), 1);
        }
        String[] two = {"1,1,0,0:1", "0,1,1,0:1", "0,0,1,1:1", "1,0,0,1:1", "*,*,0,0:1", "*,*,*,*:1"};
        for (String rule : two) {
            due("two differences: " + rule, table(2, 2, 2, 2, "0,0,0,0:1", rule).mergeRules(), 2);
        }
        due("another action", table(2, 2, 2, 2, "0,0,0,0:1", "0,0,0,0:2").mergeRules(), 2);
        due("one condition differs always in one at most", table(5, 0, 0, 0, "0:1", "4:1", "2:1").mergeRules(), 1);
    }

    @Sentence(promise = 28, says = "two rules i and i + 1")
    private static void neighboursAlone() {
        DecisionTableCompiler x = table(2, 2, 0, 0, "0,0:1", "0,1:2", "0,0:1");
        due("rules apart stay", x.mergeRules(), 3);
        x.removeRule(1);
        due("neighbours do not", x.mergeRules(), 1);
    }

    @Sentence(promise = 28, says = "the pair with the lowest i is replaced by one rule")
    private static void lowestPair() {
        DecisionTableCompiler x = table(2, 2, 0, 0, "0,0:1", "0,1:1", "1,1:1");
        due("either pair could be merged, but not both", x.mergeRules(), 2);
        due("set 0 of rule 0", x.ruleSet(0, 0), 1);
        due("set 1 of rule 0", x.ruleSet(0, 1), 3);
        due("set 0 of rule 1", x.ruleSet(1, 0), 2);
        due("set 1 of rule 1", x.ruleSet(1, 1), 2);
    }

    @Sentence(promise = 28, says = "as long as there are two rules i and i + 1")
    private static void firstAndLastPair() {
        DecisionTableCompiler x = withRules(10);
        Due.add(x, "0,1:9");
        Due.insert(x, "1,0:0", 0);
        // Now 12 rules: the first two and none else can be merged, since the last two differ twice.
        due("the first pair", x.mergeRules(), 11);
        due("its set", x.ruleSet(0, 0), 3);
        due("the next one has moved", x.ruleAction(1), 1);
        DecisionTableCompiler y = withRules(11);
        Due.add(y, "1,1:0");
        due("the last pair", y.mergeRules(), 11);
        due("its set", y.ruleSet(10, 0), 3);
        due("no rule behind it", y.ruleAction(11), NO_SUCH_RULE);
    }

    @Sentence(promise = 28, says = "whose set for each condition is the union")
    private static void unionUpToAllValues() {
        DecisionTableCompiler x = table(5, 5, 0, 0, "0,1:1", "1,1:1", "2,1:1", "3,1:1", "4,1:1");
        due("mergeRules()", x.mergeRules(), 1);
        due("all values", x.ruleSet(0, 0), 31);
        due("the other set", x.ruleSet(0, 1), 2);
        due("ruleCases(0)", x.ruleCases(0), 5);
    }

    @Sentence(promise = 28, says = "The actions of the cases do not change.")
    private static void mergeKeepsTheActions() {
        DecisionTableCompiler x = table(3, 3, 0, 0, "0,0:1", "12,0:1", "*,1:2", "*,0:2", "1,2:3");
        x.setDefault(4);
        x.storeActions(3);
        due("mergeRules()", x.mergeRules(), 3);
        due("compareActions(3)", x.compareActions(3), NONE);
    }

    @Sentence(promise = 28, says = "Discards the tree if rules were merged.")
    private static void mergeAndTheTree() {
        DecisionTableCompiler x = table(2, 2, 0, 0, "0,0:1", "0,0:1");
        x.compile();
        due("mergeRules()", x.mergeRules(), 1);
        due("the tree is discarded", x.worstCost(), NOT_COMPILED);
        x.compile();
        due("again", x.mergeRules(), 1);
        due("the tree stays", x.worstCost(), 2);
        DecisionTableCompiler none = fresh();
        none.compile();
        due("without rules", none.mergeRules(), 0);
        due("the tree stays", none.worstCost(), 0);
    }

    @Sentence(promise = 28, says = "Returns the number of rules that are left.")
    private static void fewestAndMostLeft() {
        due("without rules", fresh().mergeRules(), 0);
        due("of one", table(2, 2, 0, 0, "0,0:1").mergeRules(), 1);
        due("of twelve apart", withRules(12).mergeRules(), 12);
        DecisionTableCompiler x = fresh();
        for (int rule = 0; rule < 12; rule++) {
            Due.add(x, "0,0:7");
        }
        due("of twelve that are the same", x.mergeRules(), 1);
        due("ruleCount()", x.ruleCount(), 1);
        due("a rule has room", Due.add(x, "0,0:3"), 1);
    }
}
