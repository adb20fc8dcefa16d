import java.util.ArrayList;
import java.util.Arrays;
import java.util.List;
import java.util.Random;

/**
 * The compiled tree against all the decision trees that there are for a small table: every one is written out,
 * and what it costs is added up case by case, so that nothing rests on how a best tree is found.
 */
public final class AllTreesTest {
    private static final int LEAF = -1;
    private static final int[][] SHAPES = {{2}, {5}, {2, 2}, {3, 2}, {5, 4}, {2, 5}, {2, 2, 2}, {3, 2, 3}, {2, 4, 2},
        {2, 2, 2, 2}, {2, 3, 2, 2}};
    private static final int TABLES_OF_A_SHAPE = 400;

    private final Random random;
    private final int[] sizes;
    private final DecisionTableCompiler x;
    private final int[][] weights;
    private final int[] costs;
    private final int[][] values;
    private final int[] actions;
    private final String name;

    private AllTreesTest(int[] sizes, int seed) {
        this.sizes = sizes;
        name = Arrays.toString(sizes) + " " + seed + ": ";
        random = new Random(seed);
        x = Due.table(sizes);
        weights = new int[sizes.length][];
        costs = new int[sizes.length];
        setNumbers();
        for (int rules = random.nextInt(7); rules > 0; rules--) {
            Due.add(x, ruleText());
        }
        if (random.nextInt(3) == 0) {
            x.setDefault(random.nextInt(3));
        }
        values = new int[x.caseCount()][sizes.length];
        actions = new int[x.caseCount()];
        for (int number = 0; number < actions.length; number++) {
            actions[number] = x.action(number);
            int rest = number;
            for (int c = sizes.length - 1; c >= 0; c--) {
                values[number][c] = rest % sizes[c];
                rest /= sizes[c];
            }
        }
    }

    public static void main(String[] args) {
        for (int[] sizes : SHAPES) {
            for (int seed = 1; seed <= TABLES_OF_A_SHAPE; seed++) {
                new AllTreesTest(sizes, seed).run();
            }
        }
        Due.close();
    }

    /** Few different numbers, and often 0, so that many trees cost the same. */
    private void setNumbers() {
        boolean plain = random.nextInt(3) == 0;
        for (int c = 0; c < sizes.length; c++) {
            weights[c] = new int[sizes[c]];
            Arrays.fill(weights[c], 1);
            for (int v = 0; v < sizes[c] && !plain; v++) {
                int weight = Math.max(0, random.nextInt(5) - 1);
                if (x.setWeight(c, v, weight) >= 0) {
                    weights[c][v] = weight;
                }
            }
            costs[c] = plain ? 1 : 1 + random.nextInt(3);
            x.setCost(c, costs[c]);
        }
    }

    private String ruleText() {
        StringBuilder text = new StringBuilder();
        for (int c = 0; c < sizes.length; c++) {
            text.append(c == 0 ? "" : ",");
            if (random.nextInt(3) == 0) {
                text.append('*');
            } else {
                text.append(random.nextInt(sizes[c])).append(random.nextInt(sizes[c]));
            }
        }
        return text.append(':').append(random.nextInt(3)).toString();
    }

    private void run() {
        List<Integer> cases = new ArrayList<>();
        for (int number = 0; number < actions.length; number++) {
            cases.add(number);
        }
        int[] best = null;
        for (int[] tree : treesFor(cases, 0)) {
            best = best == null || isBetter(tree, best) ? tree : best;
        }
        compare(best);
        for (int c = 0; c < sizes.length; c++) {
            long lowest = Long.MAX_VALUE;
            for (int[] tree : treesWith(cases, 0, c)) {
                lowest = Math.min(lowest, cost(tree));
            }
            Due.due(name + "costWithRoot(" + c + ")", x.costWithRoot(c), lowest);
        }
    }

    /** All trees for cases, each as the conditions of its nodes in preorder; tested has a bit a condition. */
    private List<int[]> treesFor(List<Integer> cases, int tested) {
        boolean equal = true;
        for (int number : cases) {
            equal &= actions[number] == actions[cases.get(0)];
        }
        List<int[]> all = new ArrayList<>();
        if (equal) {
            all.add(new int[] {LEAF});
            return all;
        }
        for (int c = 0; c < sizes.length; c++) {
            if ((tested >> c & 1) == 0) {
                all.addAll(treesWith(cases, tested, c));
            }
        }
        return all;
    }

    private List<int[]> treesWith(List<Integer> cases, int tested, int condition) {
        List<int[]> all = new ArrayList<>();
        all.add(new int[] {condition});
        for (int v = 0; v < sizes[condition]; v++) {
            List<Integer> part = new ArrayList<>();
            for (int number : cases) {
                if (values[number][condition] == v) {
                    part.add(number);
                }
            }
            List<int[]> longer = new ArrayList<>();
            List<int[]> children = treesFor(part, tested | 1 << condition);
            for (int[] start : all) {
                for (int[] child : children) {
                    int[] joined = Arrays.copyOf(start, start.length + child.length);
                    System.arraycopy(child, 0, joined, start.length, child.length);
                    longer.add(joined);
                }
            }
            all = longer;
        }
        return all;
    }

    private boolean isBetter(int[] tree, int[] other) {
        if (cost(tree) != cost(other)) {
            return cost(tree) < cost(other);
        }
        if (tree.length != other.length) {
            return tree.length < other.length;
        }
        return Arrays.compare(tree, other) < 0;
    }

    /** The node behind the subtree of a node. */
    private int behind(int[] tree, int node) {
        int next = node + 1;
        for (int v = 0; tree[node] != LEAF && v < sizes[tree[node]]; v++) {
            next = behind(tree, next);
        }
        return next;
    }

    private int childOf(int[] tree, int node, int value) {
        int next = node + 1;
        for (int v = 0; v < value; v++) {
            next = behind(tree, next);
        }
        return next;
    }

    /** The nodes that a case meets, the leaf last. */
    private List<Integer> path(int[] tree, int number) {
        List<Integer> path = new ArrayList<>(List.of(0));
        int node = 0;
        while (tree[node] != LEAF) {
            node = childOf(tree, node, values[number][tree[node]]);
            path.add(node);
        }
        return path;
    }

    private int testsOf(int[] tree, int number) {
        int sum = 0;
        for (int node : path(tree, number)) {
            sum += tree[node] == LEAF ? 0 : costs[tree[node]];
        }
        return sum;
    }

    private long cost(int[] tree) {
        long sum = 0;
        for (int number = 0; number < actions.length; number++) {
            long weight = 1;
            for (int c = 0; c < sizes.length; c++) {
                weight *= weights[c][values[number][c]];
            }
            sum += weight * testsOf(tree, number);
        }
        return sum;
    }

    private void compare(int[] best) {
        Due.due(name + "compile()", x.compile(), best.length);
        Due.due(name + "expectedCost()", x.expectedCost(), cost(best));
        int worst = 0;
        int[] depths = new int[best.length];
        int[] found = new int[best.length];
        Arrays.fill(found, -6);
        for (int number = 0; number < actions.length; number++) {
            List<Integer> path = path(best, number);
            for (int depth = 0; depth < path.size(); depth++) {
                depths[path.get(depth)] = depth;
            }
            int leaf = path.get(path.size() - 1);
            found[leaf] = actions[number];
            worst = Math.max(worst, testsOf(best, number));
            Due.due(name + "leafOf(" + number + ")", x.leafOf(number), leaf);
        }
        Due.due(name + "worstCost()", x.worstCost(), worst);
        for (int node = 0; node < best.length; node++) {
            String call = name + "node(" + node + ", ";
            Due.due(call + "0)", x.node(node, 0), best[node] == LEAF ? -6 : best[node]);
            Due.due(call + "1)", x.node(node, 1), found[node]);
            Due.due(call + "2)", x.node(node, 2), behind(best, node) - node);
            Due.due(call + "3)", x.node(node, 3), depths[node]);
            for (int v = 0; best[node] != LEAF && v < sizes[best[node]]; v++) {
                Due.due(name + "child(" + node + ", " + v + ")", x.child(node, v), childOf(best, node, v));
            }
        }
        compareShared(best, found);
    }

    private void compareShared(int[] best, int[] found) {
        int lowestOnes = 0;
        for (int node = 0; node < best.length; node++) {
            int lowest = 0;
            while (!isEqual(best, found, node, lowest)) {
                lowest++;
            }
            lowestOnes += lowest == node ? 1 : 0;
            Due.due(name + "sharedNode(" + node + ")", x.sharedNode(node), lowest);
        }
        Due.due(name + "sharedNodeCount()", x.sharedNodeCount(), lowestOnes);
    }

    /** "Two subtrees are equal if both are leaves with the same action ..., or if their roots test ..." */
    private boolean isEqual(int[] tree, int[] found, int node, int other) {
        if (tree[node] != tree[other]) {
            return false;
        }
        if (tree[node] == LEAF) {
            return found[node] == found[other];
        }
        for (int v = 0; v < sizes[tree[node]]; v++) {
            if (!isEqual(tree, found, childOf(tree, node, v), childOf(tree, other, v))) {
                return false;
            }
        }
        return true;
    }
}
