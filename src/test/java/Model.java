import java.util.ArrayList;
import java.util.HashMap;
import java.util.List;
import java.util.Map;
import java.util.regex.Pattern;

/**
 * The document's words said a second time, as plainly as they can be, with lists and strings and no regard
 * for speed. It shares no code and no representation with the class, so a slip is hardly made twice.
 */
final class Model {
    private static final long NO_VALUE = Long.MIN_VALUE;

    private static final class Rule {
        final List<String> sets = new ArrayList<>();
        int action;

        boolean holds(int condition, int value) {
            return sets.get(condition).indexOf('0' + value) >= 0;
        }
    }

    private static final class Node {
        Integer condition;
        Integer action;
        long cost;
        int nodes = 1;
        int depth;
        final List<Node> children = new ArrayList<>();

        String shape() {
            StringBuilder all = new StringBuilder("(" + condition + "/" + action);
            for (Node each : children) {
                all.append(each.shape());
            }
            return all.append(')').toString();
        }
    }

    private static final class State {
        List<List<Integer>> weights = new ArrayList<>();
        List<Integer> costs = new ArrayList<>();
        List<Rule> rules = new ArrayList<>();
        Integer defaultAction;

        State copy() {
            State other = new State();
            for (List<Integer> row : weights) {
                other.weights.add(new ArrayList<>(row));
            }
            other.costs.addAll(costs);
            other.rules.addAll(rules);
            other.defaultAction = defaultAction;
            return other;
        }
    }

    private State now = new State();
    private State saved;
    private String input = "";
    private List<Node> tree;
    private final Object[] slots = new Object[4];

    Model() {
        reset(2, 2, 0, 0);
    }

    int reset(int first, int second, int third, int fourth) {
        String sizes = first + " " + second + " " + third + " " + fourth;
        if (!Pattern.matches("[2-5]( [2-5])*( 0)*", sizes)) {
            return -1;
        }
        now = new State();
        tree = null;
        for (int size : new int[] {first, second, third, fourth}) {
            if (size > 0) {
                List<Integer> row = new ArrayList<>();
                for (int v = 0; v < size; v++) {
                    row.add(1);
                }
                now.weights.add(row);
                now.costs.add(1);
            }
        }
        return caseCount();
    }

    int conditionCount() {
        return now.costs.size();
    }

    int caseCount() {
        return allCases().size();
    }

    /** The cases in order, each as the list of its values. */
    private List<List<Integer>> allCases() {
        List<List<Integer>> all = new ArrayList<>();
        all.add(new ArrayList<>());
        for (List<Integer> row : now.weights) {
            List<List<Integer>> longer = new ArrayList<>();
            for (List<Integer> start : all) {
                for (int v = 0; v < row.size(); v++) {
                    List<Integer> one = new ArrayList<>(start);
                    one.add(v);
                    longer.add(one);
                }
            }
            all = longer;
        }
        return all;
    }

    private boolean noCase(int number) {
        return number < 0 || number >= caseCount();
    }

    private boolean noCondition(int condition) {
        return condition < 0 || condition >= conditionCount();
    }

    private boolean noRule(int rule) {
        return rule < 0 || rule >= now.rules.size();
    }

    int valueIn(int number, int condition) {
        if (noCase(number)) {
            return -5;
        }
        return noCondition(condition) ? -2 : allCases().get(number).get(condition);
    }

    int setWeight(int condition, int value, int weight) {
        if (noCondition(condition) || value < 0 || value >= now.weights.get(condition).size()) {
            return -2;
        }
        if (weight < 0 || weight > 9) {
            return -1;
        }
        List<Integer> row = now.weights.get(condition);
        int previous = row.set(value, weight);
        if (row.stream().allMatch(w -> w == 0)) {
            row.set(value, previous);
            return -1;
        }
        tree = null;
        return previous;
    }

    int setCost(int condition, int cost) {
        if (noCondition(condition)) {
            return -2;
        }
        if (cost < 1 || cost > 9) {
            return -1;
        }
        tree = null;
        return now.costs.set(condition, cost);
    }

    int setDefault(int action) {
        if (action < -1 || action > 9) {
            return -1;
        }
        int previous = now.defaultAction == null ? -6 : now.defaultAction;
        now.defaultAction = action == -1 ? null : Integer.valueOf(action);
        tree = null;
        return previous;
    }

    int append(int value, int count) {
        if (value < 0 || value > 127 || count < 1 || count > 40) {
            return -1;
        }
        if (input.length() + count > 40) {
            return -4;
        }
        input += String.valueOf((char) value).repeat(count);
        return input.length();
    }

    int clearInput() {
        int held = input.length();
        input = "";
        return held;
    }

    /** The longest start of the text that some rule text has is found by trying completions. */
    private int faultOf(String text) {
        for (int end = 0; end <= text.length(); end++) {
            if (!canBeCompleted(text.substring(0, end))) {
                return end - 1;
            }
        }
        return isRule(text) ? -1 : text.length();
    }

    private boolean canBeCompleted(String start) {
        String rest = "";
        for (int c = conditionCount(); c >= 1; c--) {
            String tail = rest + ":0";
            if (isRule(start + tail) || isRule(start + "0" + tail)) {
                return true;
            }
            rest += ",0";
        }
        return isRule(start) || isRule(start + "0") || isRule(start + ":0");
    }

    private boolean isRule(String text) {
        StringBuilder grammar = new StringBuilder();
        for (List<Integer> row : now.weights) {
            grammar.append(grammar.length() == 0 ? "" : ",");
            grammar.append("(\\*|[0-").append(row.size() - 1).append("]+)");
        }
        return Pattern.compile(grammar + ":[0-9]").matcher(text).matches();
    }

    private Rule parse(String text) {
        Rule rule = new Rule();
        String[] halves = text.split(":");
        String[] parts = halves[0].split(",");
        for (int c = 0; c < parts.length; c++) {
            rule.sets.add(parts[c].equals("*") ? "01234".substring(0, now.weights.get(c).size()) : parts[c]);
        }
        rule.action = Integer.parseInt(halves[1]);
        return rule;
    }

    int addRule() {
        int at = now.rules.size();
        int answer = insertRule(at);
        return answer < 0 ? answer : at;
    }

    int insertRule(int rule) {
        String text = input;
        input = "";
        if (rule < 0 || rule > now.rules.size()) {
            return -3;
        }
        if (now.rules.size() == 12) {
            return -4;
        }
        int fault = faultOf(text);
        if (fault >= 0) {
            return -1000 - fault;
        }
        now.rules.add(rule, parse(text));
        tree = null;
        return now.rules.size();
    }

    int removeRule(int rule) {
        if (noRule(rule)) {
            return -3;
        }
        now.rules.remove(rule);
        tree = null;
        return now.rules.size();
    }

    int ruleCount() {
        return now.rules.size();
    }

    int ruleSet(int rule, int condition) {
        if (noRule(rule)) {
            return -3;
        }
        return noCondition(condition) ? -2 : bits(now.rules.get(rule), condition);
    }

    private static int bits(Rule rule, int condition) {
        int bits = 0;
        for (int v = 0; v < 5; v++) {
            bits += rule.holds(condition, v) ? 1 << v : 0;
        }
        return bits;
    }

    int ruleAction(int rule) {
        return noRule(rule) ? -3 : now.rules.get(rule).action;
    }

    int ruleCases(int rule) {
        if (noRule(rule)) {
            return -3;
        }
        Rule one = now.rules.get(rule);
        return (int) allCases().stream().filter(values -> fits(one, values)).count();
    }

    private boolean fits(Rule rule, List<Integer> values) {
        for (int c = 0; c < values.size(); c++) {
            if (!rule.holds(c, values.get(c))) {
                return false;
            }
        }
        return true;
    }

    private int firstFor(List<Integer> values) {
        for (int rule = 0; rule < now.rules.size(); rule++) {
            if (fits(now.rules.get(rule), values)) {
                return rule;
            }
        }
        return -6;
    }

    private Integer actionFor(List<Integer> values) {
        int rule = firstFor(values);
        return rule < 0 ? now.defaultAction : Integer.valueOf(now.rules.get(rule).action);
    }

    int firstMatch(int number) {
        return noCase(number) ? -5 : firstFor(allCases().get(number));
    }

    int matches(int number) {
        if (noCase(number)) {
            return -5;
        }
        int bits = 0;
        for (int rule = 0; rule < now.rules.size(); rule++) {
            bits += fits(now.rules.get(rule), allCases().get(number)) ? 1 << rule : 0;
        }
        return bits;
    }

    int action(int number) {
        if (noCase(number)) {
            return -5;
        }
        Integer action = actionFor(allCases().get(number));
        return action == null ? -6 : action;
    }

    private List<Integer> gaps() {
        List<Integer> gaps = new ArrayList<>();
        List<List<Integer>> all = allCases();
        for (int number = 0; number < all.size(); number++) {
            if (firstFor(all.get(number)) == -6) {
                gaps.add(number);
            }
        }
        return gaps;
    }

    int gapCount() {
        return gaps().size();
    }

    int gap(int index) {
        List<Integer> gaps = gaps();
        return index < 0 || index >= gaps.size() ? -6 : gaps.get(index);
    }

    private long weightOf(List<Integer> values) {
        long weight = 1;
        for (int c = 0; c < values.size(); c++) {
            weight *= now.weights.get(c).get(values.get(c));
        }
        return weight;
    }

    long gapWeight() {
        List<List<Integer>> all = allCases();
        return gaps().stream().mapToLong(number -> weightOf(all.get(number))).sum();
    }

    private List<int[]> conflicts() {
        List<int[]> found = new ArrayList<>();
        List<List<Integer>> all = allCases();
        for (int low = 0; low < now.rules.size(); low++) {
            for (int high = low + 1; high < now.rules.size(); high++) {
                Rule a = now.rules.get(low);
                Rule b = now.rules.get(high);
                int number = 0;
                while (number < all.size() && !(fits(a, all.get(number)) && fits(b, all.get(number)))) {
                    number++;
                }
                if (number < all.size() && a.action != b.action) {
                    found.add(new int[] {low, high, number});
                }
            }
        }
        return found;
    }

    int conflictCount() {
        return conflicts().size();
    }

    int conflict(int index, int what) {
        if (what < 0 || what > 2) {
            return -1;
        }
        List<int[]> all = conflicts();
        return index < 0 || index >= all.size() ? -6 : all.get(index)[what];
    }

    int isShadowed(int rule) {
        if (noRule(rule)) {
            return -3;
        }
        for (List<Integer> values : allCases()) {
            if (fits(now.rules.get(rule), values) && firstFor(values) == rule) {
                return 0;
            }
        }
        return 1;
    }

    int removeShadowed() {
        List<Rule> kept = new ArrayList<>();
        for (int rule = 0; rule < now.rules.size(); rule++) {
            if (isShadowed(rule) == 0) {
                kept.add(now.rules.get(rule));
            }
        }
        int gone = now.rules.size() - kept.size();
        now.rules = kept;
        tree = gone > 0 ? null : tree;
        return gone;
    }

    int mergeRules() {
        int i = 0;
        while (i + 1 < now.rules.size()) {
            Rule a = now.rules.get(i);
            Rule b = now.rules.get(i + 1);
            int apart = 0;
            for (int c = 0; c < conditionCount(); c++) {
                apart += bits(a, c) == bits(b, c) ? 0 : 1;
            }
            if (a.action == b.action && apart <= 1) {
                Rule both = new Rule();
                both.action = a.action;
                for (int c = 0; c < conditionCount(); c++) {
                    both.sets.add(a.sets.get(c) + b.sets.get(c));
                }
                now.rules.set(i, both);
                now.rules.remove(i + 1);
                tree = null;
                i = 0;
            } else {
                i++;
            }
        }
        return now.rules.size();
    }

    /** The best tree for cases, given by their values, with the tests that are still to be had. */
    private Node best(List<List<Integer>> cases, List<Integer> open, int depth) {
        Node leaf = new Node();
        leaf.depth = depth;
        leaf.action = actionFor(cases.get(0));
        boolean equal = true;
        for (List<Integer> values : cases) {
            Integer action = actionFor(values);
            equal &= action == null ? leaf.action == null : action.equals(leaf.action);
        }
        if (equal) {
            return leaf;
        }
        Node found = null;
        for (int condition : open) {
            Node one = tested(cases, open, condition, depth);
            if (found == null || one.cost < found.cost || (one.cost == found.cost && one.nodes < found.nodes)) {
                found = one;
            }
        }
        return found;
    }

    private Node tested(List<List<Integer>> cases, List<Integer> open, int condition, int depth) {
        Node node = new Node();
        node.depth = depth;
        node.condition = condition;
        for (List<Integer> values : cases) {
            node.cost += weightOf(values) * now.costs.get(condition);
        }
        List<Integer> rest = new ArrayList<>(open);
        rest.remove(Integer.valueOf(condition));
        for (int v = 0; v < now.weights.get(condition).size(); v++) {
            List<List<Integer>> part = new ArrayList<>();
            for (List<Integer> values : cases) {
                if (values.get(condition) == v) {
                    part.add(values);
                }
            }
            Node child = best(part, rest, depth + 1);
            node.children.add(child);
            node.cost += child.cost;
            node.nodes += child.nodes;
        }
        return node;
    }

    private List<Integer> allConditions() {
        List<Integer> all = new ArrayList<>();
        for (int c = 0; c < conditionCount(); c++) {
            all.add(c);
        }
        return all;
    }

    int compile() {
        tree = new ArrayList<>();
        list(best(allCases(), allConditions(), 0));
        return tree.size();
    }

    private void list(Node node) {
        tree.add(node);
        for (Node child : node.children) {
            list(child);
        }
    }

    private boolean noNode(int node) {
        return node < 0 || node >= tree.size();
    }

    long expectedCost() {
        return tree == null ? NO_VALUE : tree.get(0).cost;
    }

    int worstCost() {
        if (tree == null) {
            return -7;
        }
        int worst = 0;
        for (List<Integer> values : allCases()) {
            int sum = 0;
            Node node = tree.get(0);
            while (node.condition != null) {
                sum += now.costs.get(node.condition);
                node = node.children.get(values.get(node.condition));
            }
            worst = Math.max(worst, sum);
        }
        return worst;
    }

    int node(int node, int what) {
        if (tree == null) {
            return -7;
        }
        if (noNode(node) || what < 0 || what > 3) {
            return -1;
        }
        Node one = tree.get(node);
        Integer answer = List.of(0, 1).contains(what) ? (what == 0 ? one.condition : null) : Integer.valueOf(0);
        if (what == 1 && one.condition == null) {
            answer = one.action;
        }
        if (what > 1) {
            answer = what == 2 ? one.nodes : one.depth;
        }
        return answer == null ? -6 : answer;
    }

    int child(int node, int value) {
        if (tree == null) {
            return -7;
        }
        if (noNode(node)) {
            return -1;
        }
        List<Node> children = tree.get(node).children;
        return value < 0 || value >= children.size() ? -6 : tree.indexOf(children.get(value));
    }

    int leafOf(int number) {
        if (tree == null) {
            return -7;
        }
        if (noCase(number)) {
            return -5;
        }
        Node node = tree.get(0);
        while (node.condition != null) {
            node = node.children.get(allCases().get(number).get(node.condition));
        }
        return tree.indexOf(node);
    }

    private Map<String, Integer> shapes() {
        Map<String, Integer> shapes = new HashMap<>();
        for (int node = 0; node < tree.size(); node++) {
            shapes.putIfAbsent(tree.get(node).shape(), node);
        }
        return shapes;
    }

    int sharedNodeCount() {
        return tree == null ? -7 : shapes().size();
    }

    int sharedNode(int node) {
        if (tree == null) {
            return -7;
        }
        return noNode(node) ? -1 : shapes().get(tree.get(node).shape());
    }

    long costWithRoot(int condition) {
        return noCondition(condition) ? NO_VALUE : tested(allCases(), allConditions(), condition, 0).cost;
    }

    int sample(int seed, int draws, int action) {
        if (draws < 0 || draws > 500 || action < -1 || action > 9) {
            return -1;
        }
        int hits = 0;
        int x = seed;
        for (int draw = 0; draw < draws; draw++) {
            List<Integer> values = new ArrayList<>();
            for (List<Integer> row : now.weights) {
                x = x * 1103515245 + 12345;
                List<Integer> urn = new ArrayList<>();
                for (int v = 0; v < row.size(); v++) {
                    for (int k = 0; k < row.get(v); k++) {
                        urn.add(v);
                    }
                }
                values.add(urn.get((x >>> 16) % urn.size()));
            }
            Integer drawn = actionFor(values);
            hits += (drawn == null ? -1 : drawn) == action ? 1 : 0;
        }
        return hits;
    }

    private static boolean noSlot(int slot) {
        return slot < 0 || slot > 3;
    }

    int allocate(int slot, int type, int size) {
        if (noSlot(slot) || type < 0 || type > 3 || size > 700) {
            return -1;
        }
        if (size < 0) {
            return -14;
        }
        Class<?>[] types = {boolean.class, byte.class, int.class, long.class};
        slots[slot] = java.lang.reflect.Array.newInstance(types[type], size);
        return size;
    }

    int release(int slot) {
        if (noSlot(slot)) {
            return -1;
        }
        int held = slots[slot] == null ? 0 : 1;
        slots[slot] = null;
        return held;
    }

    private boolean noIndex(int slot, int index) {
        return index < 0 || index >= java.lang.reflect.Array.getLength(slots[slot]);
    }

    int putElement(int slot, int index, long value) {
        if (noSlot(slot)) {
            return -1;
        }
        if (slots[slot] == null) {
            return -11;
        }
        if (noIndex(slot, index)) {
            return -13;
        }
        if (slots[slot] instanceof boolean[]) {
            ((boolean[]) slots[slot])[index] = value != 0;
        } else if (slots[slot] instanceof byte[]) {
            ((byte[]) slots[slot])[index] = (byte) value;
        } else if (slots[slot] instanceof int[]) {
            ((int[]) slots[slot])[index] = (int) value;
        } else {
            ((long[]) slots[slot])[index] = value;
        }
        return 1;
    }

    long element(int slot, int index) {
        if (noSlot(slot) || slots[slot] == null || noIndex(slot, index)) {
            return NO_VALUE;
        }
        if (slots[slot] instanceof boolean[]) {
            return ((boolean[]) slots[slot])[index] ? 1 : 0;
        }
        return java.lang.reflect.Array.getLong(slots[slot], index);
    }

    int copyElements(int source, int sourceIndex, int target, int targetIndex, int count) {
        if (noSlot(source) || noSlot(target)) {
            return -1;
        }
        if (slots[source] == null || slots[target] == null) {
            return -11;
        }
        if (slots[source].getClass() != slots[target].getClass()) {
            return -12;
        }
        try {
            System.arraycopy(slots[source], sourceIndex, slots[target], targetIndex, count);
        } catch (IndexOutOfBoundsException e) {
            return -13;
        }
        return count;
    }

    private byte[] actions() {
        List<List<Integer>> all = allCases();
        byte[] actions = new byte[all.size()];
        for (int number = 0; number < actions.length; number++) {
            Integer action = actionFor(all.get(number));
            actions[number] = action == null ? -1 : action.byteValue();
        }
        return actions;
    }

    int storeActions(int slot) {
        if (noSlot(slot)) {
            return -1;
        }
        slots[slot] = actions();
        return caseCount();
    }

    int compareActions(int slot) {
        if (noSlot(slot)) {
            return -1;
        }
        if (slots[slot] == null) {
            return -11;
        }
        if (!(slots[slot] instanceof byte[])) {
            return -12;
        }
        byte[] held = (byte[]) slots[slot];
        byte[] due = actions();
        for (int number = 0; number < due.length; number++) {
            if (number >= held.length) {
                return -13;
            }
            if (held[number] != due[number]) {
                return number;
            }
        }
        return -6;
    }

    int snapshot() {
        saved = now.copy();
        return saved.rules.size();
    }

    int restore() {
        if (saved == null) {
            return -6;
        }
        now = saved.copy();
        tree = null;
        return now.rules.size();
    }
}
