import com.sun.management.ThreadMXBean;
import java.lang.management.ManagementFactory;
import java.lang.reflect.Array;
import java.lang.reflect.Field;
import java.lang.reflect.Modifier;
import java.util.ArrayDeque;
import java.util.Collections;
import java.util.Deque;
import java.util.IdentityHashMap;
import java.util.Set;

/**
 * All calls of a run live in one room. After the constructor no call makes an object, and the room holds
 * the objects of a run even if each of its 512 calls were the constructor.
 */
public final class RoomTest {
    private static final int ROUNDS = 200;
    private static final int CALLS = 512;
    private static final int ROOM_OBJECTS = 600_000;
    private static final int ROOM_PLACES = 7_300_000;

    private static long sink = 0;

    public static void main(String[] args) throws Exception {
        callsMakeNothing();
        constructorIsSmall();
        Due.close();
    }

    private static void callsMakeNothing() {
        ThreadMXBean bean = (ThreadMXBean) ManagementFactory.getThreadMXBean();
        long self = Thread.currentThread().getId();
        long made = 0;
        // The first rounds load what the machine needs itself.
        for (int round = -20; round < ROUNDS; round++) {
            DecisionTableCompiler x = new DecisionTableCompiler();
            long before = bean.getThreadAllocatedBytes(self);
            useAll(x);
            made += round < 0 ? 0 : bean.getThreadAllocatedBytes(self) - before;
        }
        // Less than one object a round; what there is, the machine's counting made.
        Due.due("bytes made by the calls: " + made, made < ROUNDS * 16 ? 1 : 0, 1);
        Due.due("the calls were made", sink != 0 ? 1 : 0, 1);
    }

    private static void constructorIsSmall() throws Exception {
        Set<Object> seen = Collections.newSetFromMap(new IdentityHashMap<>());
        Deque<Object> open = new ArrayDeque<>();
        open.add(new DecisionTableCompiler());
        long places = 0;
        while (!open.isEmpty()) {
            Object one = open.remove();
            if (!seen.add(one)) {
                continue;
            }
            if (one.getClass().isArray()) {
                places += Array.getLength(one);
                for (int i = 0; one instanceof Object[] && i < Array.getLength(one); i++) {
                    open.add(Array.get(one, i));
                }
                continue;
            }
            for (Field field : one.getClass().getDeclaredFields()) {
                if (Modifier.isStatic(field.getModifiers())) {
                    continue;
                }
                places++;
                field.setAccessible(true);
                if (!field.getType().isPrimitive() && field.get(one) != null) {
                    open.add(field.get(one));
                }
            }
        }
        Due.due("objects of one compiler: " + seen.size(), seen.size() * CALLS < ROOM_OBJECTS ? 1 : 0, 1);
        Due.due("places of one compiler: " + places, places * CALLS < ROOM_PLACES ? 1 : 0, 1);
    }

    private static void rule(DecisionTableCompiler x, int first, int second, int action) {
        sink += x.append('0' + first, 1) + x.append(',', 1) + x.append('0' + second, 1) + x.append(',', 1)
                + x.append('*', 1) + x.append(',', 1) + x.append('3', 1) + x.append(':', 1) + x.append('0' + action, 1);
    }

    private static void useAll(DecisionTableCompiler x) {
        sink += x.reset(5, 5, 5, 5) + x.setWeight(0, 0, 3) + x.setCost(1, 2) + x.setDefault(4);
        rule(x, 0, 1, 2);
        sink += x.addRule();
        rule(x, 3, 4, 5);
        sink += x.insertRule(0);
        rule(x, 3, 4, 6);
        sink += x.insertRule(9) + x.addRule() + x.clearInput();
        sink += x.conditionCount() + x.caseCount() + x.valueIn(7, 1) + x.ruleCount() + x.ruleSet(0, 0);
        sink += x.ruleAction(0) + x.ruleCases(0) + x.firstMatch(3) + x.matches(3) + x.action(3);
        sink += x.gapCount() + x.gap(5) + x.gapWeight() + x.conflictCount() + x.conflict(0, 2);
        sink += x.isShadowed(1) + x.removeShadowed() + x.mergeRules() + x.compile() + x.expectedCost();
        sink += x.worstCost() + x.node(0, 0) + x.child(0, 1) + x.leafOf(99) + x.sharedNodeCount();
        sink += x.sharedNode(5) + x.costWithRoot(2) + x.sample(1, 500, 4) + x.allocate(0, 3, 700);
        sink += x.putElement(0, 0, 1) + x.element(0, 0) + x.copyElements(0, 0, 0, 1, 5) + x.storeActions(1);
        sink += x.compareActions(1) + x.release(0) + x.snapshot() + x.restore() + x.removeRule(0);
    }
}
