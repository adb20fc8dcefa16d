/** Promises 29 to 37: the compiled tree, the shared graph and the cost with a given root. */
public final class TreeTest {
    private static final int MIN = Integer.MIN_VALUE;
    private static final int MAX = Integer.MAX_VALUE;
    private static final long NO_VALUE = DecisionTableCompiler.NO_VALUE;

    public static void main(String[] args) {
        notCompiled();
        alternating();
        nodeFaults();
        leaves();
        costs();
        weights();
        weightZeroCounts();
        fewestNodes();
        lowestCondition();
        largest();
        leavesOfTheLargest();
        sharedLevels();
        costWithRoot();
        compileAgain();
        Due.close();
    }

    private static void notCompiled() {
        DecisionTableCompiler x = new DecisionTableCompiler();
        Due.due("expectedCost", x.expectedCost(), NO_VALUE);
        Due.due("worstCost", x.worstCost(), -7);
        Due.due("node", x.node(0, 0), -7);
        Due.due("node: the tree is checked first", x.node(-1, 4), -7);
        Due.due("child", x.child(0, 0), -7);
        Due.due("child: the tree is checked first", x.child(-1, 0), -7);
        Due.due("leafOf", x.leafOf(0), -7);
        Due.due("leafOf: the tree is checked first", x.leafOf(4), -7);
        Due.due("sharedNodeCount", x.sharedNodeCount(), -7);
        Due.due("sharedNode", x.sharedNode(0), -7);
        Due.due("sharedNode: the tree is checked first", x.sharedNode(-1), -7);
    }

    /** Two conditions that must both be tested: 0 1 / 1 0. */
    private static DecisionTableCompiler alternatingTable() {
        DecisionTableCompiler x = Due.table(Due.sizes(2, 2), "0,1:1", "1,0:1");
        x.setDefault(0);
        return x;
    }

    private static void nodeIs(DecisionTableCompiler x, int node, int... due) {
        for (int what = 0; what < 4; what++) {
            Due.due("node(" + node + ", " + what + ")", x.node(node, what), due[what]);
        }
    }

    private static void alternating() {
        DecisionTableCompiler x = alternatingTable();
        Due.due("compile", x.compile(), 7);
        nodeIs(x, 0, 0, -6, 7, 0);
        nodeIs(x, 1, 1, -6, 3, 1);
        nodeIs(x, 2, -6, 0, 1, 2);
        nodeIs(x, 3, -6, 1, 1, 2);
        nodeIs(x, 4, 1, -6, 3, 1);
        nodeIs(x, 5, -6, 1, 1, 2);
        nodeIs(x, 6, -6, 0, 1, 2);
        int[][] children = {{1, 4}, {2, 3}, {-6, -6}, {-6, -6}, {5, 6}, {-6, -6}, {-6, -6}};
        for (int node = 0; node < 7; node++) {
            Due.due("child(" + node + ", 0)", x.child(node, 0), children[node][0]);
            Due.due("child(" + node + ", 1)", x.child(node, 1), children[node][1]);
        }
        int[] leaves = {2, 3, 5, 6};
        for (int number = 0; number < 4; number++) {
            Due.due("leafOf(" + number + ")", x.leafOf(number), leaves[number]);
        }
        int[] shared = {0, 1, 2, 3, 4, 3, 2};
        for (int node = 0; node < 7; node++) {
            Due.due("sharedNode(" + node + ")", x.sharedNode(node), shared[node]);
        }
        Due.due("sharedNodeCount", x.sharedNodeCount(), 5);
        Due.due("expectedCost", x.expectedCost(), 8);
        Due.due("worstCost", x.worstCost(), 2);
    }

    private static void nodeFaults() {
        DecisionTableCompiler x = alternatingTable();
        x.compile();
        for (int bad : new int[] {MIN, -1, 7, 781, MAX}) {
            for (int what = -1; what < 5; what++) {
                Due.due("node(" + bad + ", " + what + ")", x.node(bad, what), -1);
            }
            Due.due("child(" + bad + ", 0)", x.child(bad, 0), -1);
            Due.due("child: the node is checked before the value", x.child(bad, 9), -1);
            Due.due("leafOf(" + bad + ")", x.leafOf(bad), -5);
            Due.due("sharedNode(" + bad + ")", x.sharedNode(bad), -1);
        }
        Due.due("leafOf(4)", x.leafOf(4), -5);
        for (int bad : new int[] {MIN, -1, 4, MAX}) {
            Due.due("node(0, " + bad + ")", x.node(0, bad), -1);
            Due.due("node(2, " + bad + ")", x.node(2, bad), -1);
        }
        for (int bad : new int[] {MIN, -1, 2, MAX}) {
            Due.due("child(0, " + bad + ")", x.child(0, bad), -6);
            Due.due("child(2, " + bad + ")", x.child(2, bad), -6);
        }
    }

    private static void leaves() {
        DecisionTableCompiler x = new DecisionTableCompiler();
        Due.due("compile without actions", x.compile(), 1);
        nodeIs(x, 0, -6, -6, 1, 0);
        Due.due("expectedCost of a leaf", x.expectedCost(), 0);
        Due.due("worstCost of a leaf", x.worstCost(), 0);
        Due.due("leafOf a leaf", x.leafOf(3), 0);
        Due.due("sharedNode of a leaf", x.sharedNode(0), 0);
        Due.due("no more nodes", x.sharedNode(1), -1);
        Due.add(x, "0,*:3");
        x.setDefault(3);
        Due.due("compile with one action", x.compile(), 1);
        nodeIs(x, 0, -6, 3, 1, 0);
        x.setDefault(-1);
        Due.due("a leaf with and one without an action", x.compile(), 3);
        nodeIs(x, 1, -6, 3, 1, 1);
        nodeIs(x, 2, -6, -6, 1, 1);
        Due.due("they are not equal", x.sharedNodeCount(), 3);
        x.setDefault(0);
        x.compile();
        nodeIs(x, 2, -6, 0, 1, 1);
    }

    private static void costs() {
        DecisionTableCompiler x = Due.table(Due.sizes(2, 2), "1,1:1");
        x.setDefault(0);
        Due.due("compile", x.compile(), 5);
        Due.due("the lowest condition", x.node(0, 0), 0);
        Due.due("expectedCost", x.expectedCost(), 6);
        x.setCost(0, 3);
        x.compile();
        Due.due("the cheaper condition", x.node(0, 0), 1);
        Due.due("expectedCost", x.expectedCost(), 10);
        Due.due("worstCost", x.worstCost(), 4);
        x.setCost(1, 9);
        x.compile();
        Due.due("the cheaper condition", x.node(0, 0), 0);
        Due.due("expectedCost", x.expectedCost(), 30);
        Due.due("worstCost", x.worstCost(), 12);
    }

    private static void weights() {
        DecisionTableCompiler x = Due.table(Due.sizes(2, 2), "1,1:1");
        x.setDefault(0);
        x.setWeight(0, 1, 9);
        x.compile();
        Due.due("the condition that parts more weight", x.node(0, 0), 1);
        Due.due("expectedCost", x.expectedCost(), 30);
        Due.due("costWithRoot(0)", x.costWithRoot(0), 38);
        Due.due("costWithRoot(1)", x.costWithRoot(1), 30);
    }

    /** The cases of weight 0 cost nothing, but have their own leaves and count for the worst cost. */
    private static void weightZeroCounts() {
        DecisionTableCompiler x = Due.table(Due.sizes(2, 2), "1,1:1");
        x.setDefault(0);
        x.setWeight(0, 1, 0);
        Due.due("compile", x.compile(), 5);
        Due.due("expectedCost", x.expectedCost(), 2);
        Due.due("worstCost", x.worstCost(), 2);
        Due.due("leafOf", x.node(x.leafOf(3), 1), 1);
        DecisionTableCompiler y = Due.table(Due.sizes(2, 2), "1,*:1");
        y.setDefault(0);
        y.setWeight(0, 1, 0);
        Due.due("a root for a case of weight 0", y.compile(), 3);
        Due.due("its cost is that of the others", y.expectedCost(), 2);
    }

    /** Under value 1 of condition 0 every tree costs 0, so the one with the fewest nodes is due. */
    private static void fewestNodes() {
        DecisionTableCompiler x = Due.table(Due.sizes(2, 2, 3), "0,*,*:9", "*,*,0:0", "*,*,1:1", "*,*,2:2");
        x.setWeight(0, 1, 0);
        Due.due("compile", x.compile(), 6);
        Due.due("the root", x.node(0, 0), 0);
        Due.due("fewer nodes come before the lower condition", x.node(2, 0), 2);
        Due.due("expectedCost", x.expectedCost(), 6);
        Due.due("child(2, 2)", x.child(2, 2), 5);
        Due.due("child(2, 3)", x.child(2, 3), -6);
        DecisionTableCompiler y = Due.table(Due.sizes(3, 2), "2,1:1");
        y.setDefault(0);
        y.setWeight(0, 2, 2);
        y.setWeight(1, 0, 2);
        y.setWeight(1, 1, 2);
        Due.due("both roots cost the same", y.costWithRoot(0), y.costWithRoot(1));
        Due.due("compile", y.compile(), 6);
        Due.due("both have the same nodes", y.node(0, 0), 0);
        DecisionTableCompiler z = Due.table(Due.sizes(3, 2), "02,0:1", "02,1:2", "1,0:2", "1,1:1");
        Due.due("both roots cost the same", z.costWithRoot(0), z.costWithRoot(1));
        Due.due("compile", z.compile(), 9);
        Due.due("fewer nodes come before the lower condition", z.node(0, 0), 1);
        DecisionTableCompiler w = Due.table(Due.sizes(3, 5), "*,2:1", "2,*:2");
        w.setWeight(1, 2, 0);
        Due.due("both roots cost the same", w.costWithRoot(0), w.costWithRoot(1));
        Due.due("compile: 18 nodes with 5 tests, not 19 with 4", w.compile(), 18);
        Due.due("a test and a leaf count alike", w.node(0, 0), 1);
    }

    private static void lowestCondition() {
        DecisionTableCompiler x = Due.table(Due.sizes(2, 2, 2), "0,0,0:1", "1,1,1:1");
        x.setDefault(0);
        Due.due("compile", x.compile(), 11);
        Due.due("the root", x.node(0, 0), 0);
        Due.due("below it", x.node(1, 0), 1);
        Due.due("below that", x.node(2, 0), 2);
        Due.due("the other side", x.node(6, 0), 1);
        Due.due("expectedCost", x.expectedCost(), 8 + 8 + 4);
    }

    /** Four conditions of five values, none of which can be left out: a tree of 781 nodes. */
    private static DecisionTableCompiler largestTable() {
        DecisionTableCompiler x = Due.table(Due.sizes(5, 5, 5, 5), "13,024,024,024:1", "024,13,024,024:1",
                "024,024,13,024:1", "024,024,024,13:1", "024,13,13,13:1", "13,024,13,13:1",
                "13,13,024,13:1", "13,13,13,024:1");
        for (int c = 0; c < 4; c++) {
            x.setCost(c, 9);
            for (int v = 0; v < 5; v++) {
                x.setWeight(c, v, 9);
            }
        }
        return x;
    }

    private static void largest() {
        DecisionTableCompiler x = largestTable();
        int nodes = x.compile();
        Due.due("compile", nodes, 781);
        Due.due("worstCost", x.worstCost(), 36);
        Due.due("expectedCost", x.expectedCost(), 36L * 45 * 45 * 45 * 45);
        Due.due("costWithRoot(3)", x.costWithRoot(3), 36L * 45 * 45 * 45 * 45);
        Due.due("two leaves and two tests of each condition but the root", x.sharedNodeCount(), 9);
        Due.due("the root's subtree", x.node(0, 2), nodes);
        Due.due("the last node", x.node(nodes - 1, 2), 1);
        Due.due("no node behind it", x.node(nodes, 2), -1);
    }

    /** Some cases at a time, since an object is good for 512 calls. */
    private static void leavesOfTheLargest() {
        for (int first = 0; first < 625; first += 75) {
            DecisionTableCompiler x = largestTable();
            x.compile();
            for (int number = first; number < Math.min(625, first + 75); number++) {
                int leaf = x.leafOf(number);
                Due.due("the leaf of " + number, x.node(leaf, 1), x.action(number));
                Due.due("it is a leaf", x.node(leaf, 0), -6);
            }
        }
    }

    private static void sharedLevels() {
        DecisionTableCompiler x = Due.table(Due.sizes(2, 2, 2), "*,0,0:1", "0,1,1:1", "1,1,1:2", "1,1,0:1");
        x.setCost(1, 1);
        x.setCost(2, 9);
        Due.due("compile", x.compile(), x.node(0, 2));
        int nodes = x.node(0, 2);
        int classes = 0;
        for (int node = 0; node < nodes; node++) {
            int lowest = x.sharedNode(node);
            if (lowest == node) {
                classes++;
            }
            Due.due("a lowest node is its own", x.sharedNode(lowest), lowest);
            Due.due("equal subtrees test the same", x.node(lowest, 0), x.node(node, 0));
            Due.due("equal subtrees have the same nodes", x.node(lowest, 2), x.node(node, 2));
        }
        Due.due("sharedNodeCount", x.sharedNodeCount(), classes);
        DecisionTableCompiler y = Due.table(Due.sizes(3, 3), "02,0:1", "02,12:2", "1,0:2", "1,12:1");
        Due.due("compile", y.compile(), 13);
        int[] shared = {0, 1, 2, 3, 3, 5, 3, 2, 2, 1, 2, 3, 3};
        for (int node = 0; node < 13; node++) {
            Due.due("sharedNode(" + node + ")", y.sharedNode(node), shared[node]);
        }
        Due.due("sharedNodeCount", y.sharedNodeCount(), 5);
    }

    private static void costWithRoot() {
        DecisionTableCompiler x = new DecisionTableCompiler();
        Due.due("all actions are equal: the test alone", x.costWithRoot(0), 4);
        x.setCost(1, 7);
        Due.due("all actions are equal: the test alone", x.costWithRoot(1), 28);
        Due.add(x, "0,*:1");
        Due.due("the right root", x.costWithRoot(0), 4);
        Due.due("the wrong root", x.costWithRoot(1), 28 + 4);
        Due.due("it compiles no tree", x.worstCost(), -7);
        x.compile();
        Due.due("the wrong root", x.costWithRoot(1), 32);
        Due.due("it keeps the tree", x.expectedCost(), 4);
        Due.due("it keeps the nodes", x.node(0, 0), 0);
        for (int bad : new int[] {MIN, -1, 2, 4, MAX}) {
            Due.due("costWithRoot(" + bad + ")", x.costWithRoot(bad), NO_VALUE);
        }
    }

    private static void compileAgain() {
        DecisionTableCompiler x = alternatingTable();
        Due.due("compile", x.compile(), 7);
        Due.due("compile again", x.compile(), 7);
        x.removeRule(1);
        Due.due("the tree is gone", x.node(0, 0), -7);
        Due.due("the tree is gone", x.leafOf(0), -7);
        Due.due("the tree is gone", x.expectedCost(), NO_VALUE);
        Due.due("a smaller tree", x.compile(), 5);
        Due.due("no more nodes", x.node(5, 0), -1);
        x.gapCount();
        x.sample(1, 10, 1);
        x.storeActions(0);
        x.snapshot();
        x.append(1, 1);
        x.clearInput();
        Due.due("looks keep the tree", x.worstCost(), 2);
    }
}
