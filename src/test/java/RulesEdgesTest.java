/** The boundary cases of rules, matches and gaps, and of promises 13 to 23. */
public final class RulesEdgesTest extends Edges {
    public static void main(String[] args) throws Exception {
        runAll(RulesEdgesTest.class);
    }

    @Sentence(promise = 0, says = "A table has up to 12 rules, numbered from 0 in their order.")
    private static void upToTwelveRules() {
        DecisionTableCompiler x = withRules(12);
        due("ruleCount()", x.ruleCount(), 12);
        for (int rule = 0; rule < 12; rule++) {
            due("ruleAction(" + rule + ")", x.ruleAction(rule), rule % 10);
        }
        due("a thirteenth", Due.add(x, "0,0:0"), FULL);
        due("one before the first", x.ruleAction(-1), NO_SUCH_RULE);
        due("one behind the last", x.ruleAction(12), NO_SUCH_RULE);
    }

    @Sentence(promise = 0, says = "values, and an action, 0 to 9.")
    private static void actionsFromZeroToNine() {
        for (int action = 0; action <= 9; action++) {
            DecisionTableCompiler x = table(2, 2, 0, 0, "0,0:" + action);
            due("ruleAction(0)", x.ruleAction(0), action);
            due("action(0)", x.action(0), action);
        }
        due("a sign below 0", Due.add(fresh(), "0,0:/"), MALFORMED - 4);
        due("a sign above 9", Due.add(fresh(), "0,0::"), MALFORMED - 4);
    }

    @Sentence(promise = 0, says = "A rule has, for each condition, a nonempty set")
    private static void noSetIsEmpty() {
        DecisionTableCompiler x = fresh();
        due("the first is empty", Due.add(x, ",0:1"), MALFORMED);
        due("the last is empty", Due.add(x, "0,:1"), MALFORMED - 2);
        due("a set of one", Due.add(x, "1,1:1"), 0);
        due("ruleCases(0)", x.ruleCases(0), 1);
    }

    @Sentence(promise = 0, says = "A rule matches a case if, for each condition, the value of the case is in the set of the rule.")
    private static void everyConditionMustFit() {
        DecisionTableCompiler x = table(5, 5, 5, 5, "4,4,4,4:0");
        due("all fit", x.matches(624), 1);
        for (int apart : numbers(1, 5, 25, 125)) {
            due("all but one fit", x.matches(624 - apart), 0);
            due("all but one fit", x.matches(624 - 4 * apart), 0);
        }
        due("none fits", x.matches(0), 0);
    }

    @Sentence(promise = 0, says = "The action of a case is that of the first rule that matches it.")
    private static void firstRuleDecides() {
        DecisionTableCompiler x = table(2, 2, 0, 0, "*,*:3", "0,0:4");
        x.setDefault(5);
        due("the first of two", x.action(0), 3);
        due("the only one", x.action(3), 3);
        x.removeRule(0);
        due("the second alone", x.action(0), 4);
        due("none matches", x.action(3), 5);
    }

    @Sentence(promise = 0, says = "a case without a matching rule is called a gap, whether there is a default")
    private static void gapsWithADefault() {
        DecisionTableCompiler x = table(2, 2, 0, 0, "0,*:1");
        for (int action = -1; action <= 9; action++) {
            x.setDefault(action);
            due("gapCount() with default " + action, x.gapCount(), 2);
            due("gap(0)", x.gap(0), 2);
            due("gap(1)", x.gap(1), 3);
            due("gapWeight()", x.gapWeight(), 2);
            due("firstMatch(2)", x.firstMatch(2), NONE);
            due("matches(2)", x.matches(2), 0);
        }
    }

    @Sentence(promise = 13, says = "Deletes a rule. The rules after it are renumbered.")
    private static void removeRuleRenumbers() {
        for (int gone = 0; gone < 12; gone++) {
            DecisionTableCompiler x = withRules(12);
            due("removeRule(" + gone + ")", x.removeRule(gone), 11);
            for (int rule = 0; rule < 11; rule++) {
                int before = rule < gone ? rule : rule + 1;
                due("action of " + rule, x.ruleAction(rule), before % 10);
                due("set of " + rule, x.ruleSet(rule, 1), 1 << before % 3);
            }
            due("there is no rule 11", x.ruleAction(11), NO_SUCH_RULE);
        }
    }

    @Sentence(promise = 13, says = "Discards the tree.")
    private static void removeRuleDiscards() {
        DecisionTableCompiler x = table(2, 2, 0, 0, "*,*:1", "0,0:1");
        x.compile();
        due("one that does not exist", x.removeRule(2), NO_SUCH_RULE);
        due("keeps the tree", x.worstCost(), 0);
        due("one that decides nothing", x.removeRule(1), 1);
        due("discards the tree", x.worstCost(), NOT_COMPILED);
    }

    @Sentence(promise = 13, says = "Returns the number of rules that are left")
    private static void removeRuleAnswersTheCount() {
        DecisionTableCompiler x = withRules(12);
        for (int left = 11; left >= 0; left--) {
            due("removeRule of the last", x.removeRule(left), left);
        }
        due("of an empty table", x.removeRule(0), NO_SUCH_RULE);
    }

    @Sentence(promise = 13, says = "NO_SUCH_RULE.")
    private static void removeNoRule() {
        DecisionTableCompiler x = withRules(3);
        for (int rule : numbers(MIN, -1, 3, 4, 12, MAX)) {
            due("removeRule(" + rule + ")", x.removeRule(rule), NO_SUCH_RULE);
        }
        due("ruleCount()", x.ruleCount(), 3);
        due("of a new object", fresh().removeRule(0), NO_SUCH_RULE);
    }

    @Sentence(promise = 14, says = "Returns the number of rules.")
    private static void ruleCounts() {
        due("the fewest", fresh().ruleCount(), 0);
        DecisionTableCompiler x = withRules(12);
        due("the most", x.ruleCount(), 12);
        Due.add(x, "0,0:0");
        due("after a refused rule", x.ruleCount(), 12);
        x.removeRule(12);
        due("after a refused removal", x.ruleCount(), 12);
    }

    @Sentence(promise = 15, says = "Returns the set as bits: bit k is 1 if the value k is in it")
    private static void setsAsBits() {
        DecisionTableCompiler x = table(5, 5, 5, 5, "0,4,*,04:0", "1,2,3,01234:0");
        int[] first = {1, 16, 31, 17};
        int[] second = {2, 4, 8, 31};
        for (int c = 0; c < 4; c++) {
            due("ruleSet(0, " + c + ")", x.ruleSet(0, c), first[c]);
            due("ruleSet(1, " + c + ")", x.ruleSet(1, c), second[c]);
        }
    }

    @Sentence(promise = 15, says = "NO_SUCH_RULE (checked first)")
    private static void setOfNoRule() {
        DecisionTableCompiler x = withRules(2);
        for (int rule : numbers(MIN, -1, 2, 11, 12, MAX)) {
            due("ruleSet(" + rule + ", 0)", x.ruleSet(rule, 0), NO_SUCH_RULE);
            for (int condition : numbers(MIN, -1, 2, MAX)) {
                due("ruleSet(" + rule + ", " + condition + ")", x.ruleSet(rule, condition), NO_SUCH_RULE);
            }
        }
        due("of a new object", fresh().ruleSet(0, 0), NO_SUCH_RULE);
        due("of a new object", fresh().ruleSet(0, 2), NO_SUCH_RULE);
    }

    @Sentence(promise = 15, says = "NO_SUCH_CONDITION.")
    private static void setOfNoCondition() {
        DecisionTableCompiler x = withRules(2);
        for (int condition : numbers(MIN, -1, 2, 3, 4, MAX)) {
            due("ruleSet(0, " + condition + ")", x.ruleSet(0, condition), NO_SUCH_CONDITION);
            due("ruleSet(1, " + condition + ")", x.ruleSet(1, condition), NO_SUCH_CONDITION);
        }
        due("condition 4 of 4", table(2, 2, 2, 2, "*,*,*,*:0").ruleSet(0, 4), NO_SUCH_CONDITION);
    }

    @Sentence(promise = 16, says = "Returns the action")
    private static void lowestAndHighestAction() {
        DecisionTableCompiler x = withRules(12);
        due("ruleAction(0)", x.ruleAction(0), 0);
        due("ruleAction(9)", x.ruleAction(9), 9);
        due("ruleAction(11)", x.ruleAction(11), 1);
    }

    @Sentence(promise = 16, says = "NO_SUCH_RULE.")
    private static void actionOfNoRule() {
        DecisionTableCompiler x = withRules(2);
        for (int rule : numbers(MIN, -1, 2, 11, 12, MAX)) {
            due("ruleAction(" + rule + ")", x.ruleAction(rule), NO_SUCH_RULE);
        }
        due("of a new object", fresh().ruleAction(0), NO_SUCH_RULE);
        due("behind twelve", withRules(12).ruleAction(12), NO_SUCH_RULE);
    }

    @Sentence(promise = 17, says = "Returns the number of cases")
    private static void fewestAndMostCases() {
        DecisionTableCompiler x = table(5, 5, 5, 5, "4,4,4,4:0", "*,*,*,*:0", "01,012,0123,01234:0");
        due("one case", x.ruleCases(0), 1);
        due("all cases", x.ruleCases(1), 625);
        due("a product", x.ruleCases(2), 120);
        DecisionTableCompiler y = table(2, 0, 0, 0, "0:0", "*:0");
        due("one of two", y.ruleCases(0), 1);
        due("two of two", y.ruleCases(1), 2);
    }

    @Sentence(promise = 17, says = "NO_SUCH_RULE.")
    private static void casesOfNoRule() {
        DecisionTableCompiler x = withRules(2);
        for (int rule : numbers(MIN, -1, 2, 11, 12, MAX)) {
            due("ruleCases(" + rule + ")", x.ruleCases(rule), NO_SUCH_RULE);
        }
        due("of a new object", fresh().ruleCases(0), NO_SUCH_RULE);
        due("behind twelve", withRules(12).ruleCases(12), NO_SUCH_RULE);
    }

    private static DecisionTableCompiler lastRuleAlone() {
        DecisionTableCompiler x = table(5, 5, 5, 5);
        for (int rule = 0; rule < 11; rule++) {
            Due.add(x, "0,0,0,0:0");
        }
        Due.add(x, "04,04,04,04:1");
        return x;
    }

    @Sentence(promise = 18, says = "Returns the rule")
    private static void firstMatchOfTwelve() {
        DecisionTableCompiler x = lastRuleAlone();
        due("the first case", x.firstMatch(0), 0);
        due("the last case", x.firstMatch(624), 11);
    }

    @Sentence(promise = 18, says = "NO_SUCH_CASE (checked first)")
    private static void firstMatchOfNoCase() {
        DecisionTableCompiler x = table(2, 3, 0, 0);
        due("the last case, a gap", x.firstMatch(5), NONE);
        for (int number : numbers(MIN, -1, 6, 7, MAX)) {
            due("firstMatch(" + number + ")", x.firstMatch(number), NO_SUCH_CASE);
        }
        Due.add(x, "*,*:0");
        due("the last case", x.firstMatch(5), 0);
        for (int number : numbers(MIN, -1, 6, 7, MAX)) {
            due("firstMatch(" + number + ")", x.firstMatch(number), NO_SUCH_CASE);
        }
        due("behind the most cases", table(5, 5, 5, 5).firstMatch(625), NO_SUCH_CASE);
    }

    @Sentence(promise = 18, says = "NONE if the case is a gap.")
    private static void firstMatchOfAGap() {
        DecisionTableCompiler x = lastRuleAlone();
        due("a gap between", x.firstMatch(1), NONE);
        due("a gap between", x.firstMatch(623), NONE);
        x.setDefault(0);
        due("a gap with a default", x.firstMatch(1), NONE);
        due("without rules", fresh().firstMatch(0), NONE);
    }

    @Sentence(promise = 19, says = "Returns the rules as bits: bit k is 1 if rule k matches it")
    private static void matchesOfTwelve() {
        DecisionTableCompiler x = lastRuleAlone();
        due("all twelve", x.matches(0), 4095);
        due("the last alone", x.matches(624), 2048);
        due("none", x.matches(1), 0);
        x.setDefault(9);
        due("a default is no rule", x.matches(1), 0);
        due("without rules", fresh().matches(0), 0);
    }

    @Sentence(promise = 19, says = "NO_SUCH_CASE.")
    private static void matchesOfNoCase() {
        DecisionTableCompiler x = table(2, 3, 0, 0, "*,*:0");
        due("the last case", x.matches(5), 1);
        for (int number : numbers(MIN, -1, 6, 7, MAX)) {
            due("matches(" + number + ")", x.matches(number), NO_SUCH_CASE);
            due("without rules", fresh().matches(number), NO_SUCH_CASE);
        }
    }

    @Sentence(promise = 20, says = "Returns the action")
    private static void actionsOfTheFirstAndTheLastCase() {
        DecisionTableCompiler x = lastRuleAlone();
        due("the first case", x.action(0), 0);
        due("the last case", x.action(624), 1);
        x.setDefault(0);
        due("the lowest default", x.action(1), 0);
        x.setDefault(9);
        due("the highest default", x.action(1), 9);
        due("a rule comes first", x.action(0), 0);
    }

    @Sentence(promise = 20, says = "NO_SUCH_CASE (checked first)")
    private static void actionOfNoCase() {
        DecisionTableCompiler x = table(2, 3, 0, 0);
        for (int action = -1; action <= 0; action++) {
            x.setDefault(action);
            for (int number : numbers(MIN, -1, 6, 7, MAX)) {
                due("action(" + number + ")", x.action(number), NO_SUCH_CASE);
            }
        }
    }

    @Sentence(promise = 20, says = "NONE if it has no action.")
    private static void noAction() {
        DecisionTableCompiler x = lastRuleAlone();
        due("no rule and no default", x.action(1), NONE);
        x.setDefault(3);
        x.setDefault(-1);
        due("the default was taken back", x.action(1), NONE);
        due("without rules", fresh().action(3), NONE);
    }

    @Sentence(promise = 21, says = "Returns the number of gaps.")
    private static void fewestAndMostGaps() {
        DecisionTableCompiler x = table(5, 5, 5, 5);
        due("all", x.gapCount(), 625);
        Due.add(x, "4,4,4,4:0");
        due("all but one", x.gapCount(), 624);
        Due.add(x, "4,4,4,4:0");
        due("a second rule for it", x.gapCount(), 624);
        Due.add(x, "0123,*,*,*:0");
        Due.add(x, "4,0123,*,*:0");
        Due.add(x, "4,4,0123,*:0");
        due("four", x.gapCount(), 4);
        Due.add(x, "*,*,*,*:0");
        due("none", x.gapCount(), 0);
    }

    @Sentence(promise = 22, says = "the index of the gap in ascending order of the cases, from 0")
    private static void firstAndLastGap() {
        DecisionTableCompiler x = table(5, 5, 5, 5);
        due("the first of all", x.gap(0), 0);
        due("the last of all", x.gap(624), 624);
        Due.add(x, "0,0,0,0:0");
        due("the first but case 0", x.gap(0), 1);
        due("the last but case 0", x.gap(623), 624);
        DecisionTableCompiler y = table(2, 2, 0, 0, "01,1:0");
        due("the first", y.gap(0), 0);
        due("the last", y.gap(1), 2);
    }

    @Sentence(promise = 22, says = "NONE if there is no such gap.")
    private static void noSuchGap() {
        DecisionTableCompiler x = table(2, 3, 0, 0, "0,0:0");
        for (int index : numbers(MIN, -1, 5, 6, MAX)) {
            due("gap(" + index + ")", x.gap(index), NONE);
        }
        due("behind all", table(5, 5, 5, 5).gap(625), NONE);
        Due.add(x, "*,*:0");
        for (int index : numbers(MIN, -1, 0, MAX)) {
            due("without gaps: gap(" + index + ")", x.gap(index), NONE);
        }
    }

    @Sentence(promise = 23, says = "Returns the sum of the weights of all gaps.")
    private static void lowestAndHighestGapWeight() {
        DecisionTableCompiler x = heaviest();
        due("the highest", x.gapWeight(), 45L * 45 * 45 * 45);
        Due.add(x, "4,4,4,4:0");
        due("all but one", x.gapWeight(), 45L * 45 * 45 * 45 - 9 * 9 * 9 * 9);
        Due.add(x, "*,*,*,*:0");
        due("without gaps", x.gapWeight(), 0);
        DecisionTableCompiler y = table(2, 2, 0, 0, "0,*:0");
        y.setWeight(0, 1, 0);
        due("gaps of weight 0", y.gapWeight(), 0);
        due("they are gaps", y.gapCount(), 2);
        due("of a new object", fresh().gapWeight(), 4);
    }
}
