/** The boundary cases of the conditions and cases, and of promises 1 to 8. */
public final class TableEdgesTest extends Edges {
    public static void main(String[] args) throws Exception {
        runAll(TableEdgesTest.class);
    }

    @Sentence(promise = 0, says = "A table has 1 to 4 conditions, numbered from 0.")
    private static void oneToFourConditions() {
        int[][] shapes = {{2, 0, 0, 0}, {2, 2, 0, 0}, {2, 2, 2, 0}, {2, 2, 2, 2}};
        for (int count = 1; count <= 4; count++) {
            int[] s = shapes[count - 1];
            DecisionTableCompiler x = table(s[0], s[1], s[2], s[3]);
            due("conditionCount()", x.conditionCount(), count);
            due("the first", x.valueIn(0, 0), 0);
            due("the last", x.valueIn(0, count - 1), 0);
            due("one before the first", x.valueIn(0, -1), NO_SUCH_CONDITION);
            due("one behind the last", x.valueIn(0, count), NO_SUCH_CONDITION);
        }
    }

    @Sentence(promise = 0, says = "Each condition has 2 to 5 values, numbered from 0.")
    private static void twoToFiveValues() {
        for (int c = 0; c < 4; c++) {
            for (int size = 1; size <= 6; size++) {
                int[] s = {2, 2, 2, 2};
                s[c] = size;
                DecisionTableCompiler x = fresh();
                boolean fine = size >= 2 && size <= 5;
                due("reset with " + size + " for " + c, x.reset(s[0], s[1], s[2], s[3]), fine ? 8 * size : BAD_ARGUMENT);
                if (fine) {
                    due("the first value", x.setWeight(c, 0, 1), 1);
                    due("the last value", x.setWeight(c, size - 1, 1), 1);
                    due("one before the first", x.setWeight(c, -1, 1), NO_SUCH_CONDITION);
                    due("one behind the last", x.setWeight(c, size, 1), NO_SUCH_CONDITION);
                }
            }
        }
    }

    @Sentence(promise = 0, says = "has a weight, an integer from 0 to 9, initially 1")
    private static void weightsFromZeroToNine() {
        DecisionTableCompiler x = table(5, 5, 5, 5);
        for (int c = 0; c < 4; c++) {
            for (int v = 0; v < 5; v++) {
                due("first weight of " + c + " " + v, x.setWeight(c, v, 9), 1);
                due("the highest was kept", x.setWeight(c, v, 0), 9);
                due("the lowest was kept", x.setWeight(c, v, 1), 0);
                due("below the lowest", x.setWeight(c, v, -1), BAD_ARGUMENT);
                due("above the highest", x.setWeight(c, v, 10), BAD_ARGUMENT);
            }
        }
    }

    @Sentence(promise = 0, says = "at least one weight of each condition is above 0")
    private static void oneWeightStaysAboveZero() {
        for (int c = 0; c < 4; c++) {
            for (int last = 0; last < 5; last++) {
                DecisionTableCompiler x = table(5, 5, 5, 5);
                for (int v = 0; v < 5; v++) {
                    if (v != last) {
                        due("setWeight(" + c + ", " + v + ", 0)", x.setWeight(c, v, 0), 1);
                    }
                }
                due("the last one of " + c, x.setWeight(c, last, 0), BAD_ARGUMENT);
                due("another condition is not meant", x.setWeight((c + 1) % 4, last, 0), 1);
                due("it stays as it was", x.setWeight(c, last, 1), 1);
            }
        }
    }

    @Sentence(promise = 0, says = "test cost, 1 to 9, initially 1.")
    private static void costsFromOneToNine() {
        DecisionTableCompiler x = table(2, 2, 2, 2);
        for (int c = 0; c < 4; c++) {
            due("first cost of " + c, x.setCost(c, 9), 1);
            due("the highest was kept", x.setCost(c, 1), 9);
            due("the lowest was kept", x.setCost(c, 1), 1);
            due("below the lowest", x.setCost(c, 0), BAD_ARGUMENT);
            due("above the highest", x.setCost(c, 10), BAD_ARGUMENT);
        }
    }

    @Sentence(promise = 0, says = "in mixed radix, the value of condition 0 being the most significant digit.")
    private static void digitsCarryOver() {
        DecisionTableCompiler x = table(2, 3, 4, 5);
        valuesAre(x, 0, 0, 0, 0, 0);
        valuesAre(x, 4, 0, 0, 0, 4);
        valuesAre(x, 5, 0, 0, 1, 0);
        valuesAre(x, 19, 0, 0, 3, 4);
        valuesAre(x, 20, 0, 1, 0, 0);
        valuesAre(x, 59, 0, 2, 3, 4);
        valuesAre(x, 60, 1, 0, 0, 0);
        valuesAre(x, 119, 1, 2, 3, 4);
    }

    private static void valuesAre(DecisionTableCompiler x, int number, int... values) {
        for (int c = 0; c < values.length; c++) {
            due("valueIn(" + number + ", " + c + ")", x.valueIn(number, c), values[c]);
        }
    }

    @Sentence(promise = 0, says = "The weight of a case is the product of the weights of its values.")
    private static void weightIsAProduct() {
        DecisionTableCompiler x = heaviest("0,*,*,*:0", "*,1234,*,*:0", "*,*,1234,*:0", "*,*,*,1234:0");
        for (int v = 2; v < 5; v++) {
            x.setWeight(0, v, 0);
        }
        due("nines alone", x.gapWeight(), 9 * 9 * 9 * 9);
        x.setWeight(3, 0, 1);
        due("a one", x.gapWeight(), 9 * 9 * 9);
        x.setWeight(3, 0, 0);
        due("a zero", x.gapWeight(), 0);
    }

    @Sentence(promise = 0, says = "A new compiler has 2 conditions with 2 values each and no rules.")
    private static void newTable() {
        DecisionTableCompiler x = fresh();
        due("conditionCount()", x.conditionCount(), 2);
        due("caseCount()", x.caseCount(), 4);
        due("value 1 of condition 0", x.setWeight(0, 1, 1), 1);
        due("value 2 of condition 0", x.setWeight(0, 2, 1), NO_SUCH_CONDITION);
        due("value 1 of condition 1", x.setWeight(1, 1, 1), 1);
        due("value 2 of condition 1", x.setWeight(1, 2, 1), NO_SUCH_CONDITION);
        due("ruleCount()", x.ruleCount(), 0);
    }

    @Sentence(promise = 0, says = "The input buffer is empty, there is no compiled tree and no snapshot.")
    private static void newBufferTreeAndSnapshot() {
        due("clearInput()", fresh().clearInput(), 0);
        due("append(48, 1)", fresh().append(48, 1), 1);
        due("addRule()", fresh().addRule(), MALFORMED);
        due("sharedNodeCount()", fresh().sharedNodeCount(), NOT_COMPILED);
        due("expectedCost()", fresh().expectedCost(), NO_VALUE);
        due("restore()", fresh().restore(), NONE);
    }

    @Sentence(promise = 0, says = "initially none")
    private static void newDefault() {
        due("setDefault(-1)", fresh().setDefault(-1), NONE);
        due("setDefault(0)", fresh().setDefault(0), NONE);
        due("action(0)", fresh().action(0), NONE);
        due("action(3)", fresh().action(3), NONE);
    }

    @Sentence(promise = 0, says = "An object is used for at most 512 calls after it has been made")
    private static void fiveHundredAndTwelveCalls() {
        DecisionTableCompiler x = fresh();
        due("call 1", x.reset(5, 5, 5, 5), 625);
        for (int call = 2; call <= 510; call++) {
            due("call " + call, x.setDefault(call % 10), call == 2 ? NONE : (call - 1) % 10);
        }
        due("call 511", x.compile(), 1);
        due("call 512", x.node(0, 1), 0);
    }

    @Sentence(promise = 1, says = "Creates a compiler with 2 conditions of 2 values and no rules.")
    private static void objectsAreApart() {
        DecisionTableCompiler x = fresh();
        DecisionTableCompiler y = fresh();
        y.reset(5, 5, 5, 5);
        y.append('0', 40);
        y.setDefault(3);
        y.allocate(0, LONGS, 700);
        y.snapshot();
        y.compile();
        due("conditionCount()", x.conditionCount(), 2);
        due("caseCount()", x.caseCount(), 4);
        due("ruleCount()", x.ruleCount(), 0);
        due("gapCount()", x.gapCount(), 4);
        due("action(0)", x.action(0), NONE);
        due("clearInput()", x.clearInput(), 0);
        due("release(0)", x.release(0), 0);
        due("restore()", x.restore(), NONE);
        due("worstCost()", x.worstCost(), NOT_COMPILED);
    }

    @Sentence(promise = 2, says = "Replaces the table by one without rules and without a default action")
    private static void resetOfAFullTable() {
        DecisionTableCompiler x = withRules(12);
        x.setDefault(9);
        due("reset", x.reset(2, 3, 0, 0), 6);
        due("ruleCount()", x.ruleCount(), 0);
        due("ruleAction(0)", x.ruleAction(0), NO_SUCH_RULE);
        due("gapCount()", x.gapCount(), 6);
        due("matches(0)", x.matches(0), 0);
        due("action(0)", x.action(0), NONE);
        due("the default before", x.setDefault(9), NONE);
        due("the first rule again", Due.add(x, "1,2:9"), 0);
    }

    @Sentence(promise = 2, says = "weights and test costs become 1.")
    private static void resetOfWeightsAndCosts() {
        DecisionTableCompiler x = heaviest();
        for (int c = 0; c < 4; c++) {
            x.setCost(c, 9);
            x.setWeight(c, 0, 0);
        }
        x.reset(5, 5, 5, 5);
        for (int c = 0; c < 4; c++) {
            due("cost of " + c, x.setCost(c, 1), 1);
            for (int v = 0; v < 5; v++) {
                due("weight of " + c + " " + v, x.setWeight(c, v, 1), 1);
            }
        }
    }

    @Sentence(promise = 2, says = "The tree is discarded.")
    private static void resetToTheSameSizes() {
        DecisionTableCompiler x = fresh();
        x.compile();
        due("reset", x.reset(2, 2, 0, 0), 4);
        due("worstCost()", x.worstCost(), NOT_COMPILED);
    }

    @Sentence(promise = 2, says = "The input buffer, the array slots and the snapshot stay.")
    private static void resetKeepsWhatIsFull() {
        DecisionTableCompiler x = withRules(12);
        x.snapshot();
        x.append('0', 40);
        for (int slot = 0; slot < 4; slot++) {
            x.allocate(slot, slot, 700);
            x.putElement(slot, 699, 1);
        }
        due("reset", x.reset(5, 0, 0, 0), 5);
        due("the buffer is full", x.append('0', 1), FULL);
        for (int slot = 0; slot < 4; slot++) {
            due("the last element of " + slot, x.element(slot, 699), 1);
        }
        due("clearInput()", x.clearInput(), 40);
        due("restore()", x.restore(), 12);
        due("caseCount()", x.caseCount(), 6);
    }

    @Sentence(promise = 2, says = "the number of values of condition 0, 2 to 5")
    private static void resetFirst() {
        for (int first : numbers(MIN, -2, -1, 0, 1, 6, 7, MAX)) {
            due("reset(" + first + ", 0, 0, 0)", fresh().reset(first, 0, 0, 0), BAD_ARGUMENT);
            due("reset(" + first + ", 2, 2, 2)", fresh().reset(first, 2, 2, 2), BAD_ARGUMENT);
        }
        for (int first = 2; first <= 5; first++) {
            due("reset(" + first + ", 0, 0, 0)", fresh().reset(first, 0, 0, 0), first);
        }
    }

    @Sentence(promise = 2, says = "or 0 for a table with 1 condition")
    private static void resetSecond() {
        DecisionTableCompiler x = fresh();
        due("reset(4, 0, 0, 0)", x.reset(4, 0, 0, 0), 4);
        due("conditionCount()", x.conditionCount(), 1);
        for (int second : numbers(MIN, -1, 1, 6, MAX)) {
            due("reset(2, " + second + ", 0, 0)", x.reset(2, second, 0, 0), BAD_ARGUMENT);
            due("reset(2, " + second + ", 2, 2)", x.reset(2, second, 2, 2), BAD_ARGUMENT);
        }
        due("reset(2, 5, 0, 0)", x.reset(2, 5, 0, 0), 10);
    }

    @Sentence(promise = 2, says = "or 0 for a table with fewer than 3 conditions")
    private static void resetThird() {
        DecisionTableCompiler x = fresh();
        due("reset(4, 3, 0, 0)", x.reset(4, 3, 0, 0), 12);
        due("conditionCount()", x.conditionCount(), 2);
        for (int third : numbers(MIN, -1, 1, 6, MAX)) {
            due("reset(2, 2, " + third + ", 0)", x.reset(2, 2, third, 0), BAD_ARGUMENT);
            due("reset(2, 2, " + third + ", 2)", x.reset(2, 2, third, 2), BAD_ARGUMENT);
        }
        due("reset(2, 2, 5, 0)", x.reset(2, 2, 5, 0), 20);
    }

    @Sentence(promise = 2, says = "or 0 for a table with fewer than 4 conditions")
    private static void resetFourth() {
        DecisionTableCompiler x = fresh();
        due("reset(4, 3, 2, 0)", x.reset(4, 3, 2, 0), 24);
        due("conditionCount()", x.conditionCount(), 3);
        for (int fourth : numbers(MIN, -1, 1, 6, MAX)) {
            due("reset(2, 2, 2, " + fourth + ")", x.reset(2, 2, 2, fourth), BAD_ARGUMENT);
        }
        due("reset(2, 2, 2, 5)", x.reset(2, 2, 2, 5), 40);
    }

    @Sentence(promise = 2, says = "BAD_ARGUMENT if a number is not 2 to 5 (or 0, where it is allowed)")
    private static void resetRefused() {
        DecisionTableCompiler x = withRules(1);
        due("a 0 where none is allowed", x.reset(0, 0, 0, 0), BAD_ARGUMENT);
        due("a 0 where none is allowed", x.reset(0, 2, 2, 2), BAD_ARGUMENT);
        due("too small at the end", x.reset(2, 2, 2, 1), BAD_ARGUMENT);
        due("too large at the end", x.reset(2, 2, 2, 6), BAD_ARGUMENT);
        due("the table is as before", x.caseCount(), 6);
        due("the table is as before", x.ruleCount(), 1);
    }

    @Sentence(promise = 2, says = "or if a number after a 0 is not 0")
    private static void resetWithAHole() {
        DecisionTableCompiler x = fresh();
        due("reset(2, 0, 2, 0)", x.reset(2, 0, 2, 0), BAD_ARGUMENT);
        due("reset(2, 0, 0, 2)", x.reset(2, 0, 0, 2), BAD_ARGUMENT);
        due("reset(2, 0, 2, 2)", x.reset(2, 0, 2, 2), BAD_ARGUMENT);
        due("reset(2, 2, 0, 2)", x.reset(2, 2, 0, 2), BAD_ARGUMENT);
        due("reset(5, 5, 0, 5)", x.reset(5, 5, 0, 5), BAD_ARGUMENT);
        due("reset(2, 0, -1, 0)", x.reset(2, 0, -1, 0), BAD_ARGUMENT);
        due("reset(2, 0, 0, 6)", x.reset(2, 0, 0, 6), BAD_ARGUMENT);
    }

    @Sentence(promise = 2, says = "Returns the number of cases")
    private static void resetAnswersTheCases() {
        due("the fewest", fresh().reset(2, 0, 0, 0), 2);
        due("the most", fresh().reset(5, 5, 5, 5), 625);
    }

    @Sentence(promise = 3, says = "Returns the number of conditions.")
    private static void conditionCounts() {
        DecisionTableCompiler x = fresh();
        due("of a new object", x.conditionCount(), 2);
        x.reset(5, 0, 0, 0);
        due("the fewest", x.conditionCount(), 1);
        x.reset(2, 2, 2, 2);
        due("the most", x.conditionCount(), 4);
        x.reset(2, 2, 2, 6);
        due("after a refused reset", x.conditionCount(), 4);
    }

    @Sentence(promise = 4, says = "Returns the number of cases.")
    private static void caseCounts() {
        DecisionTableCompiler x = fresh();
        due("of a new object", x.caseCount(), 4);
        x.reset(2, 0, 0, 0);
        due("the fewest", x.caseCount(), 2);
        x.reset(5, 5, 5, 5);
        due("the most", x.caseCount(), 625);
        x.reset(5, 5, 5, 6);
        due("after a refused reset", x.caseCount(), 625);
    }

    @Sentence(promise = 5, says = "Returns the value")
    private static void valuesOfTheFirstAndTheLastCase() {
        DecisionTableCompiler x = table(5, 5, 5, 5);
        for (int c = 0; c < 4; c++) {
            due("valueIn(0, " + c + ")", x.valueIn(0, c), 0);
            due("valueIn(624, " + c + ")", x.valueIn(624, c), 4);
        }
        x.reset(2, 0, 0, 0);
        due("valueIn(1, 0)", x.valueIn(1, 0), 1);
    }

    @Sentence(promise = 5, says = "NO_SUCH_CASE (checked first)")
    private static void valueInNoCase() {
        DecisionTableCompiler x = table(2, 3, 0, 0);
        for (int number : numbers(MIN, -1, 6, 7, MAX)) {
            due("valueIn(" + number + ", 1)", x.valueIn(number, 1), NO_SUCH_CASE);
            for (int condition : numbers(MIN, -1, 2, MAX)) {
                due("valueIn(" + number + ", " + condition + ")", x.valueIn(number, condition), NO_SUCH_CASE);
            }
        }
        due("the last case", x.valueIn(5, 1), 2);
    }

    @Sentence(promise = 5, says = "NO_SUCH_CONDITION")
    private static void valueInNoCondition() {
        DecisionTableCompiler x = table(2, 3, 0, 0);
        for (int condition : numbers(MIN, -1, 2, 3, 4, MAX)) {
            due("valueIn(0, " + condition + ")", x.valueIn(0, condition), NO_SUCH_CONDITION);
            due("valueIn(5, " + condition + ")", x.valueIn(5, condition), NO_SUCH_CONDITION);
        }
    }

    @Sentence(promise = 6, says = "Discards the tree, even if the weight is the same as before.")
    private static void theSameWeightDiscards() {
        DecisionTableCompiler x = withRules(2);
        x.compile();
        due("the same weight", x.setWeight(1, 2, 1), 1);
        due("worstCost()", x.worstCost(), NOT_COMPILED);
        x.setWeight(1, 2, 0);
        x.compile();
        due("0 again", x.setWeight(1, 2, 0), 0);
        due("worstCost()", x.worstCost(), NOT_COMPILED);
    }

    @Sentence(promise = 6, says = "the weight, 0 to 9")
    private static void everyWeight() {
        DecisionTableCompiler x = fresh();
        int before = 1;
        for (int weight = 0; weight <= 9; weight++) {
            due("setWeight(0, 0, " + weight + ")", x.setWeight(0, 0, weight), before);
            before = weight;
        }
    }

    @Sentence(promise = 6, says = "Returns the previous weight")
    private static void previousWeights() {
        DecisionTableCompiler x = fresh();
        due("the first", x.setWeight(0, 0, 0), 1);
        due("0 before", x.setWeight(0, 0, 9), 0);
        due("9 before", x.setWeight(0, 0, 9), 9);
        due("refused", x.setWeight(0, 0, 10), BAD_ARGUMENT);
        due("9 is still before", x.setWeight(0, 0, 1), 9);
    }

    @Sentence(promise = 6, says = "NO_SUCH_CONDITION if there is no such condition or value (checked first)")
    private static void weightOfNoValue() {
        DecisionTableCompiler x = table(2, 3, 0, 0);
        for (int condition : numbers(MIN, -1, 2, 3, 4, MAX)) {
            due("condition " + condition, x.setWeight(condition, 0, 1), NO_SUCH_CONDITION);
            due("condition " + condition + " first", x.setWeight(condition, 0, 10), NO_SUCH_CONDITION);
        }
        for (int value : numbers(MIN, -1, 2, 5, MAX)) {
            due("value " + value + " of 2", x.setWeight(0, value, 1), NO_SUCH_CONDITION);
            due("value " + value + " first", x.setWeight(0, value, -1), NO_SUCH_CONDITION);
        }
        due("value 3 of 3", x.setWeight(1, 3, 1), NO_SUCH_CONDITION);
        due("value 2 of 3", x.setWeight(1, 2, 1), 1);
        x.setWeight(0, 0, 0);
        due("no value, though all would be 0", x.setWeight(0, 2, 0), NO_SUCH_CONDITION);
    }

    @Sentence(promise = 6, says = "BAD_ARGUMENT if the weight is out of range")
    private static void weightOutOfRange() {
        for (int weight : numbers(MIN, -2, -1, 10, 11, MAX)) {
            DecisionTableCompiler x = withRules(2);
            int nodes = x.compile();
            due("setWeight(0, 0, " + weight + ")", x.setWeight(0, 0, weight), BAD_ARGUMENT);
            due("the tree stays", x.node(0, 2), nodes);
            due("the weight stays", x.setWeight(0, 0, 1), 1);
        }
    }

    @Sentence(promise = 6, says = "or if all weights of the condition would be 0")
    private static void allWeightsZero() {
        DecisionTableCompiler x = withRules(2);
        x.setWeight(0, 0, 0);
        int nodes = x.compile();
        due("the last weight", x.setWeight(0, 1, 0), BAD_ARGUMENT);
        due("the tree stays", x.node(0, 2), nodes);
        due("one that is 0 already", x.setWeight(0, 0, 0), 0);
        due("the last weight stays", x.setWeight(0, 1, 9), 1);
        due("the last weight of 9", x.setWeight(0, 1, 0), BAD_ARGUMENT);
        due("another is raised", x.setWeight(0, 0, 1), 0);
        due("then it may be 0", x.setWeight(0, 1, 0), 9);
        due("and the other not", x.setWeight(0, 0, 0), BAD_ARGUMENT);
    }

    @Sentence(promise = 7, says = "Discards the tree, even if the cost is the same as before.")
    private static void theSameCostDiscards() {
        DecisionTableCompiler x = withRules(2);
        x.compile();
        due("the same cost", x.setCost(1, 1), 1);
        due("worstCost()", x.worstCost(), NOT_COMPILED);
    }

    @Sentence(promise = 7, says = "the cost, 1 to 9")
    private static void everyCost() {
        DecisionTableCompiler x = fresh();
        int before = 1;
        for (int cost = 1; cost <= 9; cost++) {
            due("setCost(1, " + cost + ")", x.setCost(1, cost), before);
            before = cost;
        }
    }

    @Sentence(promise = 7, says = "Returns the previous cost")
    private static void previousCosts() {
        DecisionTableCompiler x = fresh();
        due("the first", x.setCost(0, 9), 1);
        due("refused", x.setCost(0, 10), BAD_ARGUMENT);
        due("9 before", x.setCost(0, 1), 9);
        due("the other condition", x.setCost(1, 1), 1);
    }

    @Sentence(promise = 7, says = "NO_SUCH_CONDITION (checked first)")
    private static void costOfNoCondition() {
        DecisionTableCompiler x = table(2, 3, 0, 0);
        for (int condition : numbers(MIN, -1, 2, 3, 4, MAX)) {
            for (int cost : numbers(MIN, 0, 1, 9, 10, MAX)) {
                due("setCost(" + condition + ", " + cost + ")", x.setCost(condition, cost), NO_SUCH_CONDITION);
            }
        }
    }

    @Sentence(promise = 7, says = "BAD_ARGUMENT if the cost is out of range.")
    private static void costOutOfRange() {
        for (int cost : numbers(MIN, -1, 0, 10, 11, MAX)) {
            DecisionTableCompiler x = withRules(2);
            int nodes = x.compile();
            due("setCost(0, " + cost + ")", x.setCost(0, cost), BAD_ARGUMENT);
            due("the tree stays", x.node(0, 2), nodes);
            due("the cost stays", x.setCost(0, 1), 1);
        }
    }

    @Sentence(promise = 8, says = "Discards the tree, even if the action is the same as before.")
    private static void theSameDefaultDiscards() {
        DecisionTableCompiler x = withRules(2);
        x.compile();
        due("none again", x.setDefault(-1), NONE);
        due("worstCost()", x.worstCost(), NOT_COMPILED);
        x.setDefault(9);
        x.compile();
        due("9 again", x.setDefault(9), 9);
        due("worstCost()", x.worstCost(), NOT_COMPILED);
    }

    @Sentence(promise = 8, says = "the action, 0 to 9, or -1 for none")
    private static void everyDefault() {
        DecisionTableCompiler x = fresh();
        int before = NONE;
        for (int action = -1; action <= 9; action++) {
            due("setDefault(" + action + ")", x.setDefault(action), before);
            before = action < 0 ? NONE : action;
            due("action(0)", x.action(0), before);
        }
    }

    @Sentence(promise = 8, says = "Returns the previous default action, or NONE if there was none")
    private static void previousDefaults() {
        DecisionTableCompiler x = fresh();
        due("none before", x.setDefault(0), NONE);
        due("0 before", x.setDefault(-1), 0);
        due("none before", x.setDefault(9), NONE);
        due("9 before", x.setDefault(9), 9);
    }

    @Sentence(promise = 8, says = "BAD_ARGUMENT if the action is out of range.")
    private static void defaultOutOfRange() {
        for (int action : numbers(MIN, -7, -6, -2, 10, 11, MAX)) {
            DecisionTableCompiler x = withRules(2);
            int nodes = x.compile();
            due("setDefault(" + action + ")", x.setDefault(action), BAD_ARGUMENT);
            due("the tree stays", x.node(0, 2), nodes);
            due("there is still none", x.setDefault(0), NONE);
        }
    }
}
