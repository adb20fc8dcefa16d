import java.util.function.ToIntFunction;

/** The boundary cases of decision trees and the shared graph, and of promises 29 to 37. */
public final class TreeEdgesTest extends Edges {
    private static final long HEAVIEST = 45L * 45 * 45 * 45;

    public static void main(String[] args) throws Exception {
        runAll(TreeEdgesTest.class);
    }

    /** Whether the number of odd values is odd: every condition must be tested for every case. */
    private static DecisionTableCompiler largest() {
        DecisionTableCompiler x = heaviest("13,024,024,024:1", "024,13,024,024:1", "024,024,13,024:1",
                "024,024,024,13:1", "024,13,13,13:1", "13,024,13,13:1", "13,13,024,13:1", "13,13,13,024:1");
        for (int c = 0; c < 4; c++) {
            x.setCost(c, 9);
        }
        return x;
    }

    private static void noTree(String call, DecisionTableCompiler x) {
        due(call + ": expectedCost()", x.expectedCost(), NO_VALUE);
        due(call + ": worstCost()", x.worstCost(), NOT_COMPILED);
        due(call + ": node(0, 0)", x.node(0, 0), NOT_COMPILED);
        due(call + ": child(0, 0)", x.child(0, 0), NOT_COMPILED);
        due(call + ": leafOf(0)", x.leafOf(0), NOT_COMPILED);
        due(call + ": sharedNodeCount()", x.sharedNodeCount(), NOT_COMPILED);
        due(call + ": sharedNode(0)", x.sharedNode(0), NOT_COMPILED);
    }

    private static void nodeIs(DecisionTableCompiler x, int node, int... due) {
        for (int what = 0; what < 4; what++) {
            due("node(" + node + ", " + what + ")", x.node(node, what), due[what]);
        }
    }

    @Sentence(promise = 0, says = "whose actions are all equal is a leaf with that action (also if they are all without an action).")
    private static void equalActionsAreALeaf() {
        DecisionTableCompiler x = table(5, 5, 5, 5);
        due("all without an action", x.compile(), 1);
        nodeIs(x, 0, NONE, NONE, 1, 0);
        for (int action = 0; action <= 9; action++) {
            x.setDefault(action);
            due("all with the default", x.compile(), 1);
            nodeIs(x, 0, NONE, action, 1, 0);
        }
        Due.add(x, "4,4,4,4:9");
        due("one of them by a rule with the same action", x.compile(), 1);
        x.setDefault(-1);
        due("one with an action, the others without", x.compile(), 21);
    }

    @Sentence(promise = 0, says = "Otherwise the node tests a condition that was not tested above it")
    private static void eachConditionOnce() {
        DecisionTableCompiler x = largest();
        due("compile()", x.compile(), 781);
        for (int number : numbers(0, 1, 311, 312, 623, 624)) {
            int node = 0;
            int seen = 0;
            for (int depth = 0; depth < 4; depth++) {
                due("depth", x.node(node, 3), depth);
                int condition = x.node(node, 0);
                due("tested above", seen >> condition & 1, 0);
                seen |= 1 << condition;
                node = x.child(node, x.valueIn(number, condition));
            }
            due("a leaf", x.node(node, 0), NONE);
            due("the leaf", x.leafOf(number), node);
        }
    }

    @Sentence(promise = 0, says = "has one child for each value of the condition, in ascending order")
    private static void oneChildForEachValue() {
        for (int size = 2; size <= 5; size++) {
            DecisionTableCompiler x = table(size, 0, 0, 0);
            for (int v = 0; v < size; v++) {
                Due.add(x, v + ":" + v);
            }
            due("compile()", x.compile(), size + 1);
            for (int v = 0; v < size; v++) {
                due("child(0, " + v + ")", x.child(0, v), v + 1);
                due("its action", x.node(v + 1, 1), v);
            }
            due("no child before", x.child(0, -1), NONE);
            due("no child behind", x.child(0, size), NONE);
        }
    }

    @Sentence(promise = 0, says = "The expected cost of a tree is the sum, over all cases, of the weight of the case times the sum of the test costs of the nodes that test it.")
    private static void costsTimesWeights() {
        DecisionTableCompiler x = table(2, 2, 0, 0, "0,*:0", "1,0:1");
        x.setCost(0, 2);
        x.setCost(1, 9);
        x.setWeight(0, 0, 3);
        x.setWeight(1, 1, 5);
        due("compile()", x.compile(), 5);
        due("expectedCost()", x.expectedCost(), 2 * (3 + 15 + 1 + 5) + 9 * (1 + 5));
        x.setWeight(0, 1, 0);
        x.compile();
        due("the second test for no weight", x.expectedCost(), 2 * (3 + 15));
    }

    @Sentence(promise = 0, says = "The compiled tree has the minimum expected cost")
    private static void cheapestTree() {
        DecisionTableCompiler x = table(2, 2, 0, 0, "0,1:1", "1,0:1", "1,1:2", "0,0:2");
        x.setCost(0, 9);
        due("compile()", x.compile(), 7);
        due("both conditions are tested either way", x.expectedCost(), 40);
        DecisionTableCompiler y = table(2, 2, 0, 0, "1,1:1");
        y.setCost(0, 2);
        y.compile();
        due("the cheaper one first", y.node(0, 0), 1);
        due("expectedCost()", y.expectedCost(), 4 + 2 * 2);
        y.setWeight(1, 1, 9);
        y.compile();
        due("not if the weight speaks against it", y.node(0, 0), 0);
        due("expectedCost()", y.expectedCost(), 2 * 20 + 10);
    }

    @Sentence(promise = 0, says = "such trees it has the minimum number of nodes")
    private static void smallestTree() {
        DecisionTableCompiler x = table(3, 2, 0, 0, "02,0:1", "02,1:2", "1,0:2", "1,1:1");
        due("both roots cost the same", x.costWithRoot(0), x.costWithRoot(1));
        due("9 nodes, not 10", x.compile(), 9);
        due("the higher condition", x.node(0, 0), 1);
        DecisionTableCompiler y = table(2, 2, 3, 0, "0,*,*:9", "*,*,0:0", "*,*,1:1", "*,*,2:2");
        y.setWeight(0, 1, 0);
        due("a part of weight 0 is small too", y.compile(), 6);
        due("the higher condition", y.node(2, 0), 2);
        DecisionTableCompiler z = table(3, 5, 0, 0, "*,2:1", "2,*:2");
        z.setWeight(1, 2, 0);
        due("both roots cost the same", z.costWithRoot(0), z.costWithRoot(1));
        due("18 nodes with 5 tests, not 19 with 4", z.compile(), 18);
    }

    @Sentence(promise = 0, says = "every node, from the root on, tests the lowest condition that is possible.")
    private static void lowestConditions() {
        DecisionTableCompiler x = largest();
        x.compile();
        int node = 0;
        for (int c = 0; c < 4; c++) {
            due("the condition at depth " + c, x.node(node, 0), c);
            node = x.child(node, 4);
        }
        DecisionTableCompiler y = table(2, 2, 2, 2, "*,0,*,0:1", "*,1,*,1:1");
        due("compile()", y.compile(), 7);
        due("the root", y.node(0, 0), 1);
        due("below it", y.node(1, 0), 3);
        due("below it", y.node(4, 0), 3);
    }

    @Sentence(promise = 0, says = "a node comes before its children, and the children in the order of their values")
    private static void preorder() {
        DecisionTableCompiler x = largest();
        due("compile()", x.compile(), 781);
        int[] extents = {781, 156, 31, 6, 1};
        int node = 0;
        for (int depth = 0; depth < 4; depth++) {
            due("the first child", x.child(node, 0), node + 1);
            for (int v = 1; v < 5; v++) {
                due("the next child", x.child(node, v), node + 1 + v * extents[depth + 1]);
            }
            due("the subtree", x.node(node, 2), extents[depth]);
            node = x.child(node, 4);
        }
        due("the last node", node, 780);
    }

    @Sentence(promise = 0, says = "if both are leaves with the same action (or both without an action)")
    private static void equalLeaves() {
        DecisionTableCompiler x = table(5, 0, 0, 0, "1:0", "3:0", "4:1");
        due("compile()", x.compile(), 6);
        int[] shared = {0, 1, 2, 1, 2, 5};
        for (int node = 0; node < 6; node++) {
            due("sharedNode(" + node + ")", x.sharedNode(node), shared[node]);
        }
        due("no action and action 0 are not equal", x.sharedNodeCount(), 4);
    }

    @Sentence(promise = 0, says = "test the same condition and their children are equal, value by value.")
    private static void equalTests() {
        DecisionTableCompiler same = table(2, 2, 2, 0, "*,0,0:0", "*,1,1:0", "*,0,1:1", "*,1,0:1");
        due("the children the other way round", same.compile(), 7);
        due("are not equal", same.sharedNode(4), 4);
        due("sharedNodeCount()", same.sharedNodeCount(), 5);
        DecisionTableCompiler other = table(2, 2, 2, 0, "0,0,*:0", "0,1,*:1", "1,*,0:0", "1,*,1:1");
        due("the same leaves below another condition", other.compile(), 7);
        due("condition 1", other.node(1, 0), 1);
        due("condition 2", other.node(4, 0), 2);
        due("are not equal", other.sharedNode(4), 4);
        due("sharedNodeCount()", other.sharedNodeCount(), 5);
        DecisionTableCompiler ends = table(3, 3, 0, 0, "01,0:0", "01,1:1", "02,2:2", "1,2:3", "2,0:4", "2,1:5");
        due("compile()", ends.compile(), 13);
        due("the last children differ", ends.sharedNode(5), 5);
        due("the last children alone are equal", ends.sharedNode(9), 9);
        DecisionTableCompiler equal = table(3, 2, 0, 0, "02,0:0", "02,1:1");
        equal.setCost(1, 9);
        due("compile()", equal.compile(), 8);
        due("equal ones", equal.sharedNode(5), 1);
        due("sharedNodeCount()", equal.sharedNodeCount(), 5);
    }

    @Sentence(promise = 0, says = "The shared graph has one node for each class of equal subtrees.")
    private static void smallestAndLargestGraph() {
        DecisionTableCompiler leaf = fresh();
        leaf.compile();
        due("of a leaf", leaf.sharedNodeCount(), 1);
        DecisionTableCompiler x = largest();
        x.compile();
        due("two leaves, two tests of each condition but one of the root", x.sharedNodeCount(), 9);
        DecisionTableCompiler apart = table(5, 2, 0, 0, "0,0:0", "0,1:1", "1,0:2", "1,1:3", "2,0:4", "2,1:5", "3,0:6",
                "3,1:7", "4,0:8", "4,1:9");
        int nodes = apart.compile();
        due("no two equal", apart.sharedNodeCount(), nodes);
        for (int node = 0; node < nodes; node++) {
            due("sharedNode(" + node + ")", apart.sharedNode(node), node);
        }
    }

    private static void discards(String call, int answer, ToIntFunction<DecisionTableCompiler> change) {
        DecisionTableCompiler x = table(2, 2, 0, 0, "0,0:1", "0,0:1", "1,1:2");
        x.snapshot();
        Due.write(x, "0,1:3");
        x.compile();
        due(call, change.applyAsInt(x), answer);
        noTree(call, x);
        due(call + ": compile()", x.compile(), x.node(0, 2));
    }

    @Sentence(promise = 0, says = "by every successful call of a method that says that it discards the tree.")
    private static void whatDiscardsTheTree() {
        discards("reset", 4, x -> x.reset(2, 2, 0, 0));
        discards("setWeight", 1, x -> x.setWeight(0, 0, 1));
        discards("setCost", 1, x -> x.setCost(0, 1));
        discards("setDefault", NONE, x -> x.setDefault(-1));
        discards("addRule", 3, x -> x.addRule());
        discards("insertRule", 4, x -> x.insertRule(0));
        discards("removeRule", 2, x -> x.removeRule(2));
        discards("removeShadowed", 1, x -> x.removeShadowed());
        discards("mergeRules", 2, x -> x.mergeRules());
        discards("restore", 3, x -> x.restore());
    }

    private static void keeps(String call, long answer, ToIntFunction<DecisionTableCompiler> look) {
        DecisionTableCompiler x = table(2, 2, 0, 0, "0,0:1", "1,1:2");
        x.storeActions(0);
        x.compile();
        due(call, look.applyAsInt(x), answer);
        due(call + ": node(0, 2)", x.node(0, 2), 7);
        due(call + ": expectedCost()", x.expectedCost(), 8);
        due(call + ": sharedNode(6)", x.sharedNode(6), 6);
    }

    @Sentence(promise = 0, says = "It is discarded by every change of the conditions, the weights, the test costs, the rules or the default action")
    private static void whatKeepsTheTree() {
        keeps("conditionCount", 2, x -> x.conditionCount());
        keeps("caseCount", 4, x -> x.caseCount());
        keeps("valueIn", 1, x -> x.valueIn(3, 0));
        keeps("append", 40, x -> x.append(0, 40));
        keeps("clearInput", 0, x -> x.clearInput());
        keeps("ruleCount", 2, x -> x.ruleCount());
        keeps("ruleSet", 1, x -> x.ruleSet(0, 0));
        keeps("ruleAction", 2, x -> x.ruleAction(1));
        keeps("ruleCases", 1, x -> x.ruleCases(0));
        keeps("firstMatch", 0, x -> x.firstMatch(0));
        keeps("matches", 2, x -> x.matches(3));
        keeps("action", 2, x -> x.action(3));
        keeps("gapCount", 2, x -> x.gapCount());
        keeps("gap", 1, x -> x.gap(0));
        keeps("gapWeight", 2, x -> (int) x.gapWeight());
        keeps("conflictCount", 0, x -> x.conflictCount());
        keeps("conflict", NONE, x -> x.conflict(0, 0));
        keeps("isShadowed", 0, x -> x.isShadowed(1));
        keeps("removeShadowed of none", 0, x -> x.removeShadowed());
        keeps("mergeRules of none", 2, x -> x.mergeRules());
        keeps("compile", 7, x -> x.compile());
        keeps("worstCost", 2, x -> x.worstCost());
        keeps("costWithRoot", 8, x -> (int) x.costWithRoot(1));
        keeps("sample", 500, x -> x.sample(1, 500, 1) + x.sample(1, 500, 2) + x.sample(1, 500, -1));
        keeps("allocate", 700, x -> x.allocate(0, LONGS, 700));
        keeps("release", 1, x -> x.release(0));
        keeps("putElement", 1, x -> x.putElement(0, 0, 9));
        keeps("element", 1, x -> (int) x.element(0, 0));
        keeps("copyElements", 4, x -> x.copyElements(0, 0, 0, 0, 4));
        keeps("storeActions", 4, x -> x.storeActions(3));
        keeps("compareActions", NONE, x -> x.compareActions(0));
        keeps("snapshot", 2, x -> x.snapshot());
        keeps("restore of none", NONE, x -> x.restore());
        keeps("a refused reset", BAD_ARGUMENT, x -> x.reset(2, 2, 0, 1));
        keeps("a refused setWeight", BAD_ARGUMENT, x -> x.setWeight(0, 0, 10));
        keeps("a refused setCost", BAD_ARGUMENT, x -> x.setCost(0, 0));
        keeps("a refused setDefault", BAD_ARGUMENT, x -> x.setDefault(10));
        keeps("a refused addRule", MALFORMED, x -> x.addRule());
        keeps("a refused insertRule", NO_SUCH_RULE, x -> x.insertRule(3));
        keeps("a refused removeRule", NO_SUCH_RULE, x -> x.removeRule(2));
    }

    @Sentence(promise = 0, says = "In a decision tree, cases count for their actions also if their weight is 0, and so they do for the worst cost.")
    private static void casesOfWeightZero() {
        DecisionTableCompiler x = table(2, 2, 0, 0, "1,1:1");
        x.setWeight(0, 1, 0);
        x.setWeight(1, 1, 0);
        x.setCost(0, 4);
        x.setCost(1, 9);
        due("compile()", x.compile(), 5);
        due("the leaf of the case without weight", x.node(x.leafOf(3), 1), 1);
        due("expectedCost()", x.expectedCost(), 4);
        due("worstCost()", x.worstCost(), 13);
    }

    @Sentence(promise = 0, says = "With a tested root, its subtrees can be leaves, and the cost is at least that of the test.")
    private static void testedRoots() {
        DecisionTableCompiler x = table(5, 5, 5, 5, "*,*,0,*:1");
        due("leaves below the right root", x.costWithRoot(2), 625);
        due("a test more below another", x.costWithRoot(0), 625 + 625);
        x.setCost(0, 9);
        due("at least the test", x.costWithRoot(0), 9 * 625 + 625);
    }

    @Sentence(promise = 29, says = "Returns the number of its nodes.")
    private static void fewestAndMostNodes() {
        due("of a new object", fresh().compile(), 1);
        due("the fewest of the most cases", table(5, 5, 5, 5).compile(), 1);
        due("the most", largest().compile(), 781);
        due("the most of the fewest cases", table(2, 0, 0, 0, "0:0").compile(), 3);
        DecisionTableCompiler x = withRules(2);
        int nodes = x.compile();
        due("again", x.compile(), nodes);
    }

    @Sentence(promise = 29, says = "Compiles the decision tree.")
    private static void smallerAfterLarger() {
        DecisionTableCompiler x = largest();
        due("the largest", x.compile(), 781);
        due("again", x.compile(), 781);
        due("sharedNodeCount()", x.sharedNodeCount(), 9);
        x.reset(2, 2, 0, 0);
        Due.add(x, "*,0:3");
        due("a small one", x.compile(), 3);
        nodeIs(x, 0, 1, NONE, 3, 0);
        nodeIs(x, 1, NONE, 3, 1, 1);
        nodeIs(x, 2, NONE, NONE, 1, 1);
        due("expectedCost()", x.expectedCost(), 4);
        due("worstCost()", x.worstCost(), 1);
        due("sharedNodeCount()", x.sharedNodeCount(), 3);
        for (int node = 0; node < 3; node++) {
            due("sharedNode(" + node + ")", x.sharedNode(node), node);
        }
        due("leafOf(3)", x.leafOf(3), 2);
        x.removeRule(0);
        due("the smallest", x.compile(), 1);
        due("worstCost()", x.worstCost(), 0);
        due("sharedNodeCount()", x.sharedNodeCount(), 1);
    }

    @Sentence(promise = 30, says = "Returns the expected cost")
    private static void lowestAndHighestExpectedCost() {
        DecisionTableCompiler leaf = heaviest();
        leaf.compile();
        due("of a leaf", leaf.expectedCost(), 0);
        DecisionTableCompiler x = largest();
        x.compile();
        due("the highest", x.expectedCost(), 36 * HEAVIEST);
    }

    @Sentence(promise = 30, says = "NO_VALUE if there is no compiled tree.")
    private static void expectedCostOfNoTree() {
        DecisionTableCompiler x = fresh();
        due("of a new object", x.expectedCost(), NO_VALUE);
        x.compile();
        due("compiled", x.expectedCost(), 0);
        x.setDefault(-1);
        due("discarded", x.expectedCost(), NO_VALUE);
        x.costWithRoot(0);
        due("costWithRoot compiles nothing", x.expectedCost(), NO_VALUE);
    }

    @Sentence(promise = 31, says = "Returns the maximum")
    private static void lowestAndHighestWorstCost() {
        DecisionTableCompiler leaf = heaviest();
        leaf.compile();
        due("of a leaf", leaf.worstCost(), 0);
        DecisionTableCompiler x = largest();
        x.compile();
        due("the highest", x.worstCost(), 36);
        DecisionTableCompiler y = table(2, 2, 2, 0, "0,*,*:0", "1,0,*:1", "1,1,0:2");
        y.setCost(1, 2);
        y.setCost(2, 3);
        y.compile();
        due("the dearest path", y.worstCost(), 6);
    }

    @Sentence(promise = 31, says = "NOT_COMPILED.")
    private static void worstCostOfNoTree() {
        DecisionTableCompiler x = fresh();
        due("of a new object", x.worstCost(), NOT_COMPILED);
        x.compile();
        x.setCost(0, 1);
        due("discarded", x.worstCost(), NOT_COMPILED);
    }

    @Sentence(promise = 32, says = "0 for the condition that it tests, or NONE for a leaf")
    private static void conditionsOfNodes() {
        DecisionTableCompiler x = table(2, 2, 2, 2, "*,*,*,0:1");
        x.compile();
        due("the highest condition", x.node(0, 0), 3);
        due("a leaf", x.node(1, 0), NONE);
        due("a leaf without an action", x.node(2, 0), NONE);
        DecisionTableCompiler y = table(2, 2, 2, 2, "0,*,*,*:1");
        y.compile();
        due("the lowest condition", y.node(0, 0), 0);
    }

    @Sentence(promise = 32, says = "1 for the action of a leaf, or NONE for a leaf without an action and for a node that tests a condition")
    private static void actionsOfNodes() {
        DecisionTableCompiler x = table(3, 0, 0, 0, "0:0", "1:9");
        x.compile();
        due("a test", x.node(0, 1), NONE);
        due("the lowest action", x.node(1, 1), 0);
        due("the highest action", x.node(2, 1), 9);
        due("no action", x.node(3, 1), NONE);
    }

    @Sentence(promise = 32, says = "2 for the number of nodes of its subtree, including itself; 3 for its depth, which is 0 for the root")
    private static void subtreesAndDepths() {
        DecisionTableCompiler x = largest();
        x.compile();
        due("the whole tree", x.node(0, 2), 781);
        due("the root's depth", x.node(0, 3), 0);
        due("the last leaf", x.node(780, 2), 1);
        due("the last leaf's depth", x.node(780, 3), 4);
        due("the last test", x.node(775, 2), 6);
        due("the last test's depth", x.node(775, 3), 3);
        DecisionTableCompiler leaf = fresh();
        leaf.compile();
        due("a leaf alone", leaf.node(0, 2), 1);
        due("its depth", leaf.node(0, 3), 0);
    }

    @Sentence(promise = 32, says = "NOT_COMPILED (checked first)")
    private static void nodeOfNoTree() {
        DecisionTableCompiler x = fresh();
        for (int node : numbers(MIN, -1, 0, 781, MAX)) {
            for (int what : numbers(MIN, -1, 0, 3, 4, MAX)) {
                due("node(" + node + ", " + what + ")", x.node(node, what), NOT_COMPILED);
            }
        }
    }

    @Sentence(promise = 32, says = "BAD_ARGUMENT if there is no such node or what is out of range.")
    private static void noSuchNode() {
        DecisionTableCompiler x = withRules(1);
        int nodes = x.compile();
        for (int what = 0; what <= 3; what++) {
            for (int node : numbers(MIN, -1, nodes, nodes + 1, 781, MAX)) {
                due("node(" + node + ", " + what + ")", x.node(node, what), BAD_ARGUMENT);
            }
        }
        for (int what : numbers(MIN, -1, 4, 5, MAX)) {
            for (int node : numbers(-1, 0, nodes - 1, nodes)) {
                due("node(" + node + ", " + what + ")", x.node(node, what), BAD_ARGUMENT);
            }
        }
        due("the last node", x.node(nodes - 1, 2), 1);
        DecisionTableCompiler y = largest();
        y.compile();
        due("behind the largest tree", y.node(781, 0), BAD_ARGUMENT);
        y.reset(2, 0, 0, 0);
        y.compile();
        due("a node of an earlier tree", y.node(1, 0), BAD_ARGUMENT);
    }

    @Sentence(promise = 33, says = "Returns the node that is the child")
    private static void firstAndLastChild() {
        DecisionTableCompiler x = largest();
        x.compile();
        due("the first", x.child(0, 0), 1);
        due("the last", x.child(0, 4), 625);
        due("the last of the last", x.child(775, 4), 780);
    }

    @Sentence(promise = 33, says = "NOT_COMPILED (checked first)")
    private static void childOfNoTree() {
        DecisionTableCompiler x = fresh();
        for (int node : numbers(MIN, -1, 0, 781, MAX)) {
            for (int value : numbers(MIN, -1, 0, 2, MAX)) {
                due("child(" + node + ", " + value + ")", x.child(node, value), NOT_COMPILED);
            }
        }
    }

    @Sentence(promise = 33, says = "BAD_ARGUMENT if there is no such node (checked second)")
    private static void childOfNoNode() {
        DecisionTableCompiler x = withRules(1);
        int nodes = x.compile();
        for (int node : numbers(MIN, -1, nodes, nodes + 1, MAX)) {
            for (int value : numbers(MIN, -1, 0, 3, MAX)) {
                due("child(" + node + ", " + value + ")", x.child(node, value), BAD_ARGUMENT);
            }
        }
    }

    @Sentence(promise = 33, says = "NONE if the node is a leaf or there is no such value.")
    private static void noSuchChild() {
        DecisionTableCompiler leaf = fresh();
        leaf.compile();
        for (int value : numbers(MIN, -1, 0, 1, 2, MAX)) {
            due("a leaf alone: child(0, " + value + ")", leaf.child(0, value), NONE);
        }
        DecisionTableCompiler x = table(2, 3, 0, 0, "0,*:1");
        x.compile();
        for (int value : numbers(MIN, -1, 2, 3, MAX)) {
            due("child(0, " + value + ")", x.child(0, value), NONE);
            due("child(1, " + value + ")", x.child(1, value), NONE);
        }
        due("a value of another condition", x.child(0, 2), NONE);
        due("the last leaf", x.child(2, 0), NONE);
        DecisionTableCompiler y = table(2, 3, 0, 0, "*,0:1");
        y.compile();
        due("the last value", y.child(0, 2), 3);
        due("behind it", y.child(0, 3), NONE);
    }

    @Sentence(promise = 34, says = "Returns the node that is the leaf")
    private static void leavesOfTheFirstAndTheLastCase() {
        DecisionTableCompiler x = largest();
        x.compile();
        due("the first case", x.leafOf(0), 4);
        due("the last case", x.leafOf(624), 780);
        DecisionTableCompiler leaf = table(5, 5, 5, 5);
        leaf.compile();
        due("a leaf alone", leaf.leafOf(0), 0);
        due("a leaf alone", leaf.leafOf(624), 0);
    }

    @Sentence(promise = 34, says = "NOT_COMPILED (checked first)")
    private static void leafOfNoTree() {
        DecisionTableCompiler x = fresh();
        for (int number : numbers(MIN, -1, 0, 3, 4, MAX)) {
            due("leafOf(" + number + ")", x.leafOf(number), NOT_COMPILED);
        }
    }

    @Sentence(promise = 34, says = "NO_SUCH_CASE.")
    private static void leafOfNoCase() {
        DecisionTableCompiler x = withRules(2);
        x.compile();
        for (int number : numbers(MIN, -1, 6, 7, MAX)) {
            due("leafOf(" + number + ")", x.leafOf(number), NO_SUCH_CASE);
        }
        due("the last case", x.node(x.leafOf(5), 0), NONE);
        DecisionTableCompiler y = largest();
        y.compile();
        due("behind the most cases", y.leafOf(625), NO_SUCH_CASE);
    }

    @Sentence(promise = 35, says = "Returns the number of nodes")
    private static void fewestSharedNodes() {
        DecisionTableCompiler leaf = fresh();
        leaf.compile();
        due("of a leaf", leaf.sharedNodeCount(), 1);
        DecisionTableCompiler x = table(2, 0, 0, 0, "0:0");
        x.compile();
        due("of two leaves and a test", x.sharedNodeCount(), 3);
        DecisionTableCompiler y = table(5, 0, 0, 0, "0:0");
        y.compile();
        due("four of the leaves are equal", y.sharedNodeCount(), 3);
    }

    @Sentence(promise = 35, says = "NOT_COMPILED.")
    private static void sharedNodesOfNoTree() {
        DecisionTableCompiler x = fresh();
        due("of a new object", x.sharedNodeCount(), NOT_COMPILED);
        x.compile();
        x.reset(2, 2, 0, 0);
        due("discarded", x.sharedNodeCount(), NOT_COMPILED);
    }

    @Sentence(promise = 36, says = "Returns the lowest such node, which may be the node itself")
    private static void lowestSharedNodes() {
        DecisionTableCompiler x = largest();
        x.compile();
        due("the root", x.sharedNode(0), 0);
        due("the first test of condition 1", x.sharedNode(1), 1);
        due("the last test of condition 1", x.sharedNode(625), 1);
        due("the other test of condition 1", x.sharedNode(469), 157);
        due("the last leaf", x.sharedNode(780), 4);
        due("the leaf before it", x.sharedNode(779), 5);
        DecisionTableCompiler leaf = fresh();
        leaf.compile();
        due("a leaf alone", leaf.sharedNode(0), 0);
    }

    @Sentence(promise = 36, says = "NOT_COMPILED (checked first)")
    private static void sharedNodeOfNoTree() {
        DecisionTableCompiler x = fresh();
        for (int node : numbers(MIN, -1, 0, 781, MAX)) {
            due("sharedNode(" + node + ")", x.sharedNode(node), NOT_COMPILED);
        }
    }

    @Sentence(promise = 36, says = "BAD_ARGUMENT if there is no such node.")
    private static void sharedNodeOfNoNode() {
        DecisionTableCompiler x = withRules(1);
        int nodes = x.compile();
        for (int node : numbers(MIN, -1, nodes, nodes + 1, 781, MAX)) {
            due("sharedNode(" + node + ")", x.sharedNode(node), BAD_ARGUMENT);
        }
        DecisionTableCompiler y = largest();
        y.compile();
        due("behind the largest tree", y.sharedNode(781), BAD_ARGUMENT);
    }

    @Sentence(promise = 37, says = "condition, even if all actions are equal.")
    private static void rootsOfEqualActions() {
        DecisionTableCompiler x = heaviest();
        for (int c = 0; c < 4; c++) {
            x.setCost(c, 9 - c);
            due("costWithRoot(" + c + ")", x.costWithRoot(c), (9 - c) * HEAVIEST);
        }
        due("the tree itself is a leaf", x.compile(), 1);
        due("and costs nothing", x.expectedCost(), 0);
    }

    @Sentence(promise = 37, says = "The subtrees of the root are as in the definition of a decision tree.")
    private static void subtreesOfRoots() {
        DecisionTableCompiler x = table(2, 3, 0, 0, "0,*:1", "1,2:1");
        due("a leaf and a test", x.costWithRoot(0), 6 + 3);
        due("two tests and a leaf", x.costWithRoot(1), 6 + 4);
        x.setWeight(1, 2, 0);
        due("a leaf of weight 0", x.costWithRoot(1), 4 + 4);
        x.setCost(0, 9);
        due("dear tests below the root", x.costWithRoot(1), 4 + 36);
    }

    @Sentence(promise = 37, says = "Returns the minimum expected cost")
    private static void lowestAndHighestCostWithRoot() {
        DecisionTableCompiler x = largest();
        for (int c = 0; c < 4; c++) {
            due("costWithRoot(" + c + ")", x.costWithRoot(c), 36 * HEAVIEST);
        }
        DecisionTableCompiler y = table(2, 0, 0, 0);
        y.setWeight(0, 0, 0);
        due("the lowest", y.costWithRoot(0), 1);
    }

    @Sentence(promise = 37, says = "NO_VALUE if there is no such condition.")
    private static void noSuchRoot() {
        DecisionTableCompiler x = withRules(2);
        for (int condition : numbers(MIN, -1, 2, 3, 4, MAX)) {
            due("costWithRoot(" + condition + ")", x.costWithRoot(condition), NO_VALUE);
        }
        due("behind four", table(2, 2, 2, 2).costWithRoot(4), NO_VALUE);
        due("behind one", table(2, 0, 0, 0).costWithRoot(1), NO_VALUE);
    }
}
