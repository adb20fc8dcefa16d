import java.util.List;
import java.util.function.Consumer;
import java.util.function.ToLongFunction;

/**
 * A refused call changes nothing, but that addRule and insertRule consume the buffer: all that can be seen of
 * an object after it is what is seen of a twin that did not get the call.
 */
public final class RefusedCallsTest {
    private static final int MIN = Integer.MIN_VALUE;
    private static final int MAX = Integer.MAX_VALUE;
    private static final long NO_VALUE = Long.MIN_VALUE;

    private final DecisionTableCompiler called;
    private final DecisionTableCompiler twin;

    private RefusedCallsTest(Consumer<DecisionTableCompiler> start) {
        called = new DecisionTableCompiler();
        twin = new DecisionTableCompiler();
        start.accept(called);
        start.accept(twin);
    }

    public static void main(String[] args) {
        table();
        input();
        addRule();
        insertRule();
        rulesAndCases();
        tree();
        noTree();
        arrays();
        snapshot();
        Due.close();
    }

    /** Two conditions, three rules, a tree, three arrays, a snapshot of another table and a text that is begun. */
    private static void busy(DecisionTableCompiler x) {
        x.reset(2, 2, 0, 0);
        Due.add(x, "*,1:8");
        x.setCost(1, 7);
        x.snapshot();
        x.reset(2, 3, 0, 0);
        Due.add(x, "0,0:1");
        Due.add(x, "*,12:2");
        Due.add(x, "0,*:3");
        x.setWeight(0, 0, 0);
        x.setWeight(1, 2, 4);
        x.setCost(0, 3);
        x.setDefault(5);
        x.storeActions(0);
        x.allocate(1, 3, 2);
        x.putElement(1, 1, 1L << 40);
        x.allocate(2, 0, 0);
        Due.write(x, "0,");
        x.compile();
    }

    /** As above, with twelve rules, a full buffer, no tree and no snapshot. */
    private static void full(DecisionTableCompiler x) {
        x.reset(2, 3, 0, 0);
        for (int rule = 0; rule < 12; rule++) {
            Due.add(x, rule % 2 + "," + rule % 3 + ":" + rule % 10);
        }
        x.append('0', 40);
    }

    private void same(String call) {
        List<String> got = Trace.of(called);
        List<String> want = Trace.of(twin);
        for (int i = 0; i < Math.min(got.size(), want.size()); i++) {
            if (!got.get(i).equals(want.get(i))) {
                Due.due(call + " left '" + got.get(i) + "' for '" + want.get(i) + "', line", 1, 0);
            }
        }
        Due.due(call + ": lines", got.size(), want.size());
    }

    private static void refused(String call, long answer, ToLongFunction<DecisionTableCompiler> run) {
        RefusedCallsTest one = new RefusedCallsTest(RefusedCallsTest::busy);
        Due.due(call, run.applyAsLong(one.called), answer);
        one.same(call);
    }

    private static void refusedWhenFull(String call, long answer, ToLongFunction<DecisionTableCompiler> run) {
        RefusedCallsTest one = new RefusedCallsTest(RefusedCallsTest::full);
        Due.due(call, run.applyAsLong(one.called), answer);
        one.same(call);
    }

    /** The twin's buffer is emptied, which is all that the refused call may do. */
    private static void consumed(String call, long answer, Consumer<DecisionTableCompiler> start,
            ToLongFunction<DecisionTableCompiler> run) {
        RefusedCallsTest one = new RefusedCallsTest(start);
        Due.due(call, run.applyAsLong(one.called), answer);
        one.twin.clearInput();
        one.same(call);
    }

    private static void table() {
        refused("reset too small", -1, x -> x.reset(1, 3, 0, 0));
        refused("reset too large", -1, x -> x.reset(2, 3, 2, 6));
        refused("reset with a hole", -1, x -> x.reset(2, 0, 3, 0));
        refused("reset of nothing", -1, x -> x.reset(0, 0, 0, 0));
        refused("valueIn of no case", -5, x -> x.valueIn(6, 0));
        refused("valueIn of no condition", -2, x -> x.valueIn(5, 2));
        refused("setWeight of no condition", -2, x -> x.setWeight(2, 0, 1));
        refused("setWeight of no value", -2, x -> x.setWeight(0, 2, 1));
        refused("setWeight too small", -1, x -> x.setWeight(1, 2, -1));
        refused("setWeight too large", -1, x -> x.setWeight(1, 2, 10));
        refused("setWeight of all to 0", -1, x -> x.setWeight(0, 1, 0));
        refused("setCost of no condition", -2, x -> x.setCost(2, 1));
        refused("setCost too small", -1, x -> x.setCost(0, 0));
        refused("setCost too large", -1, x -> x.setCost(0, 10));
        refused("setDefault too small", -1, x -> x.setDefault(-2));
        refused("setDefault too large", -1, x -> x.setDefault(10));
    }

    private static void input() {
        refused("append too small a byte", -1, x -> x.append(-1, 1));
        refused("append too large a byte", -1, x -> x.append(128, 1));
        refused("append too seldom", -1, x -> x.append('0', 0));
        refused("append too often", -1, x -> x.append('0', 41));
        refused("append more than there is room", -4, x -> x.append('1', 39));
        refusedWhenFull("append to a full buffer", -4, x -> x.append('1', 1));
        refusedWhenFull("append a wrong byte to a full buffer", -1, x -> x.append(MAX, 1));
    }

    private static void addRule() {
        consumed("addRule too early", -1002, RefusedCallsTest::busy, x -> x.addRule());
        consumed("addRule with a fault", -1002, RefusedCallsTest::busy, x -> Due.add(x, "3:1"));
        consumed("addRule with a late fault", -1005, RefusedCallsTest::busy, x -> Due.add(x, "2:11"));
        consumed("addRule to a full table", -4, RefusedCallsTest::full, x -> x.addRule());
        consumed("addRule without a text", -1000, x -> x.append('0', 1), x -> x.clearInput() == 1 ? x.addRule() : 0);
    }

    private static void insertRule() {
        consumed("insertRule below", -3, RefusedCallsTest::busy, x -> Due.insert(x, "0:1", -1));
        consumed("insertRule above", -3, RefusedCallsTest::busy, x -> Due.insert(x, "0:1", 4));
        consumed("insertRule far away", -3, RefusedCallsTest::busy, x -> Due.insert(x, "0:1", MIN));
        consumed("insertRule too early", -1003, RefusedCallsTest::busy, x -> Due.insert(x, "0", 0));
        consumed("insertRule with a fault", -1002, RefusedCallsTest::busy, x -> Due.insert(x, ",0:1", 1));
        consumed("insertRule in a full table", -4, RefusedCallsTest::full, x -> x.insertRule(12));
        consumed("insertRule above a full table", -3, RefusedCallsTest::full, x -> x.insertRule(13));
    }

    private static void rulesAndCases() {
        refused("removeRule below", -3, x -> x.removeRule(-1));
        refused("removeRule above", -3, x -> x.removeRule(3));
        refused("ruleSet of no rule", -3, x -> x.ruleSet(3, 0));
        refused("ruleSet of no condition", -2, x -> x.ruleSet(2, 2));
        refused("ruleAction of no rule", -3, x -> x.ruleAction(3));
        refused("ruleCases of no rule", -3, x -> x.ruleCases(-1));
        refused("firstMatch of no case", -5, x -> x.firstMatch(6));
        refused("matches of no case", -5, x -> x.matches(-1));
        refused("action of no case", -5, x -> x.action(MAX));
        refused("gap of no index", -6, x -> x.gap(99));
        refused("conflict of a wrong kind", -1, x -> x.conflict(0, 3));
        refused("conflict of no index", -6, x -> x.conflict(99, 0));
        refused("isShadowed of no rule", -3, x -> x.isShadowed(3));
        refusedWhenFull("removeRule above", -3, x -> x.removeRule(12));
        refusedWhenFull("isShadowed of no rule", -3, x -> x.isShadowed(12));
    }

    private static void tree() {
        refused("node of no node", -1, x -> x.node(99, 0));
        refused("node of a wrong kind", -1, x -> x.node(0, 4));
        refused("child of no node", -1, x -> x.child(-1, 0));
        refused("child of no value", -6, x -> x.child(0, 5));
        refused("leafOf no case", -5, x -> x.leafOf(6));
        refused("sharedNode of no node", -1, x -> x.sharedNode(MIN));
        refused("costWithRoot of no condition", NO_VALUE, x -> x.costWithRoot(2));
        refused("sample of too few", -1, x -> x.sample(1, -1, 0));
        refused("sample of too many", -1, x -> x.sample(1, 501, 0));
        refused("sample of no action", -1, x -> x.sample(1, 1, 10));
    }

    private static void noTree() {
        refusedWhenFull("expectedCost", NO_VALUE, x -> x.expectedCost());
        refusedWhenFull("worstCost", -7, x -> x.worstCost());
        refusedWhenFull("node", -7, x -> x.node(0, 0));
        refusedWhenFull("child", -7, x -> x.child(0, 0));
        refusedWhenFull("leafOf", -7, x -> x.leafOf(0));
        refusedWhenFull("sharedNodeCount", -7, x -> x.sharedNodeCount());
        refusedWhenFull("sharedNode", -7, x -> x.sharedNode(0));
    }

    private static void arrays() {
        refused("allocate in no slot", -1, x -> x.allocate(4, 0, 1));
        refused("allocate of no type", -1, x -> x.allocate(0, 4, 1));
        refused("allocate too much", -1, x -> x.allocate(1, 2, 701));
        refused("allocate less than none", -14, x -> x.allocate(1, 2, -1));
        refused("allocate less than none in an empty slot", -14, x -> x.allocate(3, 2, MIN));
        refused("release of no slot", -1, x -> x.release(-1));
        refused("release of an empty slot", 0, x -> x.release(3));
        refused("putElement in no slot", -1, x -> x.putElement(4, 0, 1));
        refused("putElement in an empty slot", -11, x -> x.putElement(3, 0, 1));
        refused("putElement below", -13, x -> x.putElement(1, -1, 1));
        refused("putElement above", -13, x -> x.putElement(1, 2, 1));
        refused("putElement in an array of none", -13, x -> x.putElement(2, 0, 1));
        refused("element of no slot", NO_VALUE, x -> x.element(4, 0));
        refused("element of an empty slot", NO_VALUE, x -> x.element(3, 0));
        refused("element above", NO_VALUE, x -> x.element(0, 6));
        refused("copyElements of no slot", -1, x -> x.copyElements(0, 0, 4, 0, 1));
        refused("copyElements to an empty slot", -11, x -> x.copyElements(0, 0, 3, 0, 1));
        refused("copyElements of another type", -12, x -> x.copyElements(0, 0, 1, 0, 1));
        refused("copyElements beyond the end", -13, x -> x.copyElements(0, 0, 0, 1, 6));
        refused("copyElements of a negative count", -13, x -> x.copyElements(1, 1, 1, 0, -1));
        refused("copyElements far beyond the end", -13, x -> x.copyElements(1, 1, 1, 1, MAX));
        refused("storeActions in no slot", -1, x -> x.storeActions(4));
        refused("compareActions of no slot", -1, x -> x.compareActions(-1));
        refused("compareActions of an empty slot", -11, x -> x.compareActions(3));
        refused("compareActions of longs", -12, x -> x.compareActions(1));
    }

    private static void snapshot() {
        refusedWhenFull("restore without a snapshot", -6, x -> x.restore());
    }
}
