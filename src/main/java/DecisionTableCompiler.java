import java.util.Arrays;

/**
 * A compiler for decision tables: rules over several conditions are checked for gaps, conflicts and
 * shadowed rules, and compiled to a decision tree with the minimum expected test cost, which is also
 * shared to a directed acyclic graph.
 *
 * <p>All rows are made by the constructor and used again, so no call makes an object.
 */
public final class DecisionTableCompiler {
    public static final int BAD_ARGUMENT = -1;
    public static final int NO_SUCH_CONDITION = -2;
    public static final int NO_SUCH_RULE = -3;
    public static final int FULL = -4;
    public static final int NO_SUCH_CASE = -5;
    public static final int NONE = -6;
    public static final int NOT_COMPILED = -7;
    public static final int EMPTY_SLOT = -11;
    public static final int WRONG_TYPE = -12;
    public static final int INDEX_OUT_OF_RANGE = -13;
    public static final int NEGATIVE_SIZE = -14;
    public static final long NO_VALUE = Long.MIN_VALUE;

    private static final int MAX_CONDITIONS = 4;
    private static final int MIN_VALUES = 2;
    private static final int MAX_VALUES = 5;
    private static final int MAX_RULES = 12;
    private static final int MAX_ACTION = 9;
    private static final int MAX_WEIGHT = 9;
    private static final int MAX_COST = 9;
    private static final int MAX_BYTE = 127;
    private static final int MAX_INPUT = 40;
    private static final int MAX_DRAWS = 500;
    private static final int MAX_SLOTS = 4;
    private static final int MAX_ELEMENTS = 700;

    /** A full tree of four conditions with five values each: 1 + 5 + 25 + 125 + 625 nodes. */
    private static final int MAX_NODES = 781;

    /** A full tree has 156 tests, and its leaves have one of ten actions or none. */
    private static final int MAX_CLASSES = 167;

    /** In a cube each of four conditions has one of five values or is open: 6 * 6 * 6 * 6 cubes. */
    private static final int MAX_CUBES = 1296;

    /** Stands for "no action" inside; the arrays of storeActions show it as it is. */
    private static final int NO_ACTION = -1;

    /** The action of a cube whose cases have different ones; no case has it. */
    private static final int MIXED_ACTIONS = -2;

    /** Stands for the condition of a leaf, which tests none. */
    private static final int NO_TEST = -1;

    private static final int MALFORMED = -1000;

    private static final int BOOLEAN_TYPE = 0;
    private static final int BYTE_TYPE = 1;
    private static final int INT_TYPE = 2;
    private static final int LONG_TYPE = 3;

    private final Table table;
    private final Table saved;
    private final InputBuffer input;
    private final RuleText text;
    private final Planner planner;
    private final Tree tree;
    private final Slot[] slots;
    private boolean hasSaved;
    private boolean compiled;

    public DecisionTableCompiler() {
        table = new Table();
        saved = new Table();
        input = new InputBuffer();
        text = new RuleText();
        planner = new Planner();
        tree = new Tree();
        slots = new Slot[MAX_SLOTS];
        for (int i = 0; i < MAX_SLOTS; i++) {
            slots[i] = new Slot();
        }
        table.clearTo(2, 2, 0, 0);
        saved.clearTo(2, 2, 0, 0);
        hasSaved = false;
        compiled = false;
    }

    // Conditions and cases.

    public int reset(int first, int second, int third, int fourth) {
        boolean shaped = isSize(first) && mayFollow(first, second)
                && mayFollow(second, third) && mayFollow(third, fourth);
        if (!shaped) {
            return BAD_ARGUMENT;
        }
        table.clearTo(first, second, third, fourth);
        compiled = false;
        return table.cases;
    }

    public int conditionCount() {
        return table.conditions;
    }

    public int caseCount() {
        return table.cases;
    }

    public int valueIn(int number, int condition) {
        if (!table.hasCase(number)) {
            return NO_SUCH_CASE;
        }
        if (!table.hasCondition(condition)) {
            return NO_SUCH_CONDITION;
        }
        return table.digitOf(number, condition);
    }

    public int setWeight(int condition, int value, int weight) {
        if (!table.hasValue(condition, value)) {
            return NO_SUCH_CONDITION;
        }
        int previous = table.weights[condition * MAX_VALUES + value];
        boolean othersAreZero = table.weightSum(condition) == previous;
        if (weight < 0 || weight > MAX_WEIGHT || (weight == 0 && othersAreZero)) {
            return BAD_ARGUMENT;
        }
        table.weights[condition * MAX_VALUES + value] = weight;
        compiled = false;
        return previous;
    }

    public int setCost(int condition, int cost) {
        if (!table.hasCondition(condition)) {
            return NO_SUCH_CONDITION;
        }
        if (cost < 1 || cost > MAX_COST) {
            return BAD_ARGUMENT;
        }
        int previous = table.costs[condition];
        table.costs[condition] = cost;
        compiled = false;
        return previous;
    }

    public int setDefault(int action) {
        if (!isActionOrNone(action)) {
            return BAD_ARGUMENT;
        }
        int previous = table.defaultAction;
        table.defaultAction = action;
        compiled = false;
        return actionAnswer(previous);
    }

    // The input buffer and the rules.

    public int append(int value, int count) {
        if (value < 0 || value > MAX_BYTE || count < 1 || count > MAX_INPUT) {
            return BAD_ARGUMENT;
        }
        if (count > MAX_INPUT - input.length) {
            return FULL;
        }
        input.add(value, count);
        return input.length;
    }

    public int clearInput() {
        int held = input.length;
        input.length = 0;
        return held;
    }

    public int addRule() {
        int rule = table.rules;
        int answer = takeRule(rule);
        return answer < 0 ? answer : rule;
    }

    public int insertRule(int rule) {
        int answer = takeRule(rule);
        return answer < 0 ? answer : table.rules;
    }

    public int removeRule(int rule) {
        if (!table.hasRule(rule)) {
            return NO_SUCH_RULE;
        }
        table.dropRule(rule);
        compiled = false;
        return table.rules;
    }

    public int ruleCount() {
        return table.rules;
    }

    public int ruleSet(int rule, int condition) {
        if (!table.hasRule(rule)) {
            return NO_SUCH_RULE;
        }
        if (!table.hasCondition(condition)) {
            return NO_SUCH_CONDITION;
        }
        return table.setOf(rule, condition);
    }

    public int ruleAction(int rule) {
        if (!table.hasRule(rule)) {
            return NO_SUCH_RULE;
        }
        return table.actions[rule];
    }

    public int ruleCases(int rule) {
        if (!table.hasRule(rule)) {
            return NO_SUCH_RULE;
        }
        int product = 1;
        for (int c = 0; c < table.conditions; c++) {
            product *= Integer.bitCount(table.setOf(rule, c));
        }
        return product;
    }

    // Matches and gaps.

    public int firstMatch(int number) {
        if (!table.hasCase(number)) {
            return NO_SUCH_CASE;
        }
        int rule = table.firstRuleFor(number);
        return rule < 0 ? NONE : rule;
    }

    public int matches(int number) {
        if (!table.hasCase(number)) {
            return NO_SUCH_CASE;
        }
        return table.rulesFor(number);
    }

    public int action(int number) {
        if (!table.hasCase(number)) {
            return NO_SUCH_CASE;
        }
        return actionAnswer(table.actionFor(number));
    }

    public int gapCount() {
        int count = 0;
        for (int number = 0; number < table.cases; number++) {
            if (table.rulesFor(number) == 0) {
                count++;
            }
        }
        return count;
    }

    public int gap(int index) {
        int seen = 0;
        for (int number = 0; number < table.cases; number++) {
            if (table.rulesFor(number) == 0) {
                if (seen == index) {
                    return number;
                }
                seen++;
            }
        }
        return NONE;
    }

    public long gapWeight() {
        long sum = 0;
        for (int number = 0; number < table.cases; number++) {
            if (table.rulesFor(number) == 0) {
                sum += table.weightOf(number);
            }
        }
        return sum;
    }

    // Relations of rules.

    public int conflictCount() {
        int count = 0;
        for (int low = 0; low < table.rules; low++) {
            for (int high = low + 1; high < table.rules; high++) {
                if (table.inConflict(low, high)) {
                    count++;
                }
            }
        }
        return count;
    }

    public int conflict(int index, int what) {
        if (what < 0 || what > 2) {
            return BAD_ARGUMENT;
        }
        int seen = 0;
        for (int low = 0; low < table.rules; low++) {
            for (int high = low + 1; high < table.rules; high++) {
                if (table.inConflict(low, high)) {
                    if (seen == index) {
                        return conflictAnswer(low, high, what);
                    }
                    seen++;
                }
            }
        }
        return NONE;
    }

    public int isShadowed(int rule) {
        if (!table.hasRule(rule)) {
            return NO_SUCH_RULE;
        }
        return (table.deciding() >> rule & 1) == 0 ? 1 : 0;
    }

    public int removeShadowed() {
        int deciding = table.deciding();
        int before = table.rules;
        // Downwards, so that the numbers of the rules still to be looked at stay the same.
        for (int rule = before - 1; rule >= 0; rule--) {
            if ((deciding >> rule & 1) == 0) {
                table.dropRule(rule);
                compiled = false;
            }
        }
        return before - table.rules;
    }

    public int mergeRules() {
        // Each merge leaves one rule less, so there are fewer merges than there can be rules.
        for (int merge = 0; merge < MAX_RULES; merge++) {
            int rule = table.firstMergeable();
            if (rule < 0) {
                break;
            }
            table.mergeWithNext(rule);
            compiled = false;
        }
        return table.rules;
    }

    // The compiled tree.

    public int compile() {
        planner.plan(table);
        tree.build(planner, table);
        compiled = true;
        return tree.count;
    }

    public long expectedCost() {
        return compiled ? tree.expected : NO_VALUE;
    }

    public int worstCost() {
        return compiled ? tree.worst : NOT_COMPILED;
    }

    public int node(int node, int what) {
        if (!compiled) {
            return NOT_COMPILED;
        }
        if (!tree.hasNode(node)) {
            return BAD_ARGUMENT;
        }
        switch (what) {
            case 0:
                return tree.tests[node] == NO_TEST ? NONE : tree.tests[node];
            case 1:
                return actionAnswer(tree.actions[node]);
            case 2:
                return tree.extents[node];
            case 3:
                return tree.depths[node];
            default:
                return BAD_ARGUMENT;
        }
    }

    public int child(int node, int value) {
        if (!compiled) {
            return NOT_COMPILED;
        }
        if (!tree.hasNode(node)) {
            return BAD_ARGUMENT;
        }
        if (!table.hasValue(tree.tests[node], value)) {
            return NONE;
        }
        return tree.branch(node, value);
    }

    public int leafOf(int number) {
        if (!compiled) {
            return NOT_COMPILED;
        }
        if (!table.hasCase(number)) {
            return NO_SUCH_CASE;
        }
        return tree.leafFor(number, table);
    }

    public int sharedNodeCount() {
        return compiled ? tree.classCount : NOT_COMPILED;
    }

    public int sharedNode(int node) {
        if (!compiled) {
            return NOT_COMPILED;
        }
        if (!tree.hasNode(node)) {
            return BAD_ARGUMENT;
        }
        return tree.lowest[tree.classes[node]];
    }

    public long costWithRoot(int condition) {
        if (!table.hasCondition(condition)) {
            return NO_VALUE;
        }
        planner.plan(table);
        return planner.costWithTest(condition, table);
    }

    public int sample(int seed, int draws, int action) {
        if (draws < 0 || draws > MAX_DRAWS || !isActionOrNone(action)) {
            return BAD_ARGUMENT;
        }
        int x = seed;
        int hits = 0;
        for (int draw = 0; draw < draws; draw++) {
            int number = 0;
            for (int c = 0; c < table.conditions; c++) {
                x = x * 1103515245 + 12345;
                int mark = remainder(x >>> 16, table.weightSum(c));
                number += table.valueAt(c, mark) * table.strides[c];
            }
            if (table.actionFor(number) == action) {
                hits++;
            }
        }
        return hits;
    }

    // The array slots.

    public int allocate(int slot, int type, int size) {
        if (!isSlot(slot) || type < BOOLEAN_TYPE || type > LONG_TYPE || size > MAX_ELEMENTS) {
            return BAD_ARGUMENT;
        }
        if (size < 0) {
            return NEGATIVE_SIZE;
        }
        slots[slot].fillWith(type, size);
        return size;
    }

    public int release(int slot) {
        if (!isSlot(slot)) {
            return BAD_ARGUMENT;
        }
        int held = slots[slot].used ? 1 : 0;
        slots[slot].used = false;
        return held;
    }

    public int putElement(int slot, int index, long value) {
        if (!isSlot(slot)) {
            return BAD_ARGUMENT;
        }
        if (!slots[slot].used) {
            return EMPTY_SLOT;
        }
        if (!slots[slot].hasIndex(index)) {
            return INDEX_OUT_OF_RANGE;
        }
        slots[slot].put(index, value);
        return 1;
    }

    public long element(int slot, int index) {
        if (!isSlot(slot) || !slots[slot].used || !slots[slot].hasIndex(index)) {
            return NO_VALUE;
        }
        return slots[slot].elements[index];
    }

    public int copyElements(int source, int sourceIndex, int target, int targetIndex, int count) {
        if (!isSlot(source) || !isSlot(target)) {
            return BAD_ARGUMENT;
        }
        Slot from = slots[source];
        Slot to = slots[target];
        if (!from.used || !to.used) {
            return EMPTY_SLOT;
        }
        if (from.type != to.type) {
            return WRONG_TYPE;
        }
        if (!from.hasRange(sourceIndex, count) || !to.hasRange(targetIndex, count)) {
            return INDEX_OUT_OF_RANGE;
        }
        System.arraycopy(from.elements, sourceIndex, to.elements, targetIndex, count);
        return count;
    }

    public int storeActions(int slot) {
        if (!isSlot(slot)) {
            return BAD_ARGUMENT;
        }
        Slot target = slots[slot];
        target.fillWith(BYTE_TYPE, table.cases);
        for (int number = 0; number < table.cases; number++) {
            target.put(number, table.actionFor(number));
        }
        return table.cases;
    }

    public int compareActions(int slot) {
        if (!isSlot(slot)) {
            return BAD_ARGUMENT;
        }
        Slot source = slots[slot];
        if (!source.used) {
            return EMPTY_SLOT;
        }
        if (source.type != BYTE_TYPE) {
            return WRONG_TYPE;
        }
        for (int number = 0; number < table.cases; number++) {
            if (!source.hasIndex(number)) {
                return INDEX_OUT_OF_RANGE;
            }
            if (source.elements[number] != table.actionFor(number)) {
                return number;
            }
        }
        return NONE;
    }

    // The snapshot.

    public int snapshot() {
        saved.copyFrom(table);
        hasSaved = true;
        return saved.rules;
    }

    public int restore() {
        if (!hasSaved) {
            return NONE;
        }
        table.copyFrom(saved);
        compiled = false;
        return table.rules;
    }

    /** Puts the rule of the buffer at a place and answers 0, or an error code. */
    private int takeRule(int rule) {
        int fault = text.read(input, table);
        // The buffer is consumed whatever the answer is.
        input.length = 0;
        if (rule < 0 || rule > table.rules) {
            return NO_SUCH_RULE;
        }
        if (table.rules >= MAX_RULES) {
            return FULL;
        }
        if (fault >= 0) {
            return MALFORMED - fault;
        }
        table.putRule(rule, text);
        compiled = false;
        return 0;
    }

    private int conflictAnswer(int low, int high, int what) {
        if (what == 0) {
            return low;
        }
        return what == 1 ? high : table.lowestCommonCase(low, high);
    }

    private static int actionAnswer(int action) {
        return action < 0 ? NONE : action;
    }

    private static boolean isActionOrNone(int action) {
        return action >= NO_ACTION && action <= MAX_ACTION;
    }

    private static boolean isSize(int size) {
        return size >= MIN_VALUES && size <= MAX_VALUES;
    }

    /** A size of 0 says that there is no such condition, and then there is none after it. */
    private static boolean mayFollow(int before, int size) {
        return size == 0 || (before != 0 && isSize(size));
    }

    private static boolean isSlot(int slot) {
        return slot >= 0 && slot < MAX_SLOTS;
    }

    /** No table has a divisor of 0; the test keeps the machine from ever meeting one. */
    private static int quotient(int dividend, int divisor) {
        return divisor == 0 ? 0 : dividend / divisor;
    }

    private static int remainder(int dividend, int divisor) {
        return divisor == 0 ? 0 : dividend % divisor;
    }

    /** The conditions, weights, test costs, rules and the default action. */
    private static final class Table {
        int conditions;
        int cases;
        int rules;
        int defaultAction;
        final int[] sizes = new int[MAX_CONDITIONS];
        /** What one more in the value of a condition adds to the number of a case. */
        final int[] strides = new int[MAX_CONDITIONS];
        final int[] costs = new int[MAX_CONDITIONS];
        final int[] weights = new int[MAX_CONDITIONS * MAX_VALUES];
        final int[] sets = new int[MAX_RULES * MAX_CONDITIONS];
        final int[] actions = new int[MAX_RULES];
        /** For each value the rules that have it in their set, as bits: saves a walk over the rules. */
        final int[] rulesWith = new int[MAX_CONDITIONS * MAX_VALUES];

        void clearTo(int first, int second, int third, int fourth) {
            sizes[0] = first;
            sizes[1] = second;
            sizes[2] = third;
            sizes[3] = fourth;
            conditions = 0;
            cases = 1;
            for (int c = MAX_CONDITIONS - 1; c >= 0; c--) {
                strides[c] = cases;
                if (sizes[c] > 0) {
                    conditions++;
                    cases *= sizes[c];
                }
            }
            rules = 0;
            defaultAction = NO_ACTION;
            Arrays.fill(costs, 1);
            Arrays.fill(weights, 1);
            Arrays.fill(rulesWith, 0);
        }

        void copyFrom(Table other) {
            conditions = other.conditions;
            cases = other.cases;
            rules = other.rules;
            defaultAction = other.defaultAction;
            System.arraycopy(other.sizes, 0, sizes, 0, MAX_CONDITIONS);
            System.arraycopy(other.strides, 0, strides, 0, MAX_CONDITIONS);
            System.arraycopy(other.costs, 0, costs, 0, MAX_CONDITIONS);
            System.arraycopy(other.weights, 0, weights, 0, MAX_CONDITIONS * MAX_VALUES);
            System.arraycopy(other.sets, 0, sets, 0, MAX_RULES * MAX_CONDITIONS);
            System.arraycopy(other.actions, 0, actions, 0, MAX_RULES);
            System.arraycopy(other.rulesWith, 0, rulesWith, 0, MAX_CONDITIONS * MAX_VALUES);
        }

        boolean hasCondition(int condition) {
            return condition >= 0 && condition < conditions;
        }

        boolean hasValue(int condition, int value) {
            return hasCondition(condition) && value >= 0 && value < sizes[condition];
        }

        boolean hasCase(int number) {
            return number >= 0 && number < cases;
        }

        boolean hasRule(int rule) {
            return rule >= 0 && rule < rules;
        }

        int digitOf(int number, int condition) {
            return remainder(quotient(number, strides[condition]), sizes[condition]);
        }

        int weightSum(int condition) {
            int sum = 0;
            for (int v = 0; v < sizes[condition]; v++) {
                sum += weights[condition * MAX_VALUES + v];
            }
            return sum;
        }

        /** The lowest value with more than the mark in the weights up to it. */
        int valueAt(int condition, int mark) {
            int sum = 0;
            for (int v = 0; v < sizes[condition]; v++) {
                sum += weights[condition * MAX_VALUES + v];
                if (sum > mark) {
                    return v;
                }
            }
            return 0;
        }

        int weightOf(int number) {
            int product = 1;
            for (int c = 0; c < conditions; c++) {
                product *= weights[c * MAX_VALUES + digitOf(number, c)];
            }
            return product;
        }

        int rulesFor(int number) {
            int found = (1 << rules) - 1;
            for (int c = 0; c < conditions; c++) {
                found &= rulesWith[c * MAX_VALUES + digitOf(number, c)];
            }
            return found;
        }

        /** The first rule that matches the case, or -1. */
        int firstRuleFor(int number) {
            int found = rulesFor(number);
            for (int rule = 0; rule < rules; rule++) {
                if ((found >> rule & 1) != 0) {
                    return rule;
                }
            }
            return -1;
        }

        int actionFor(int number) {
            int rule = firstRuleFor(number);
            return rule < 0 ? defaultAction : actions[rule];
        }

        /** The rules, as bits, that are the first match of some case: the others are shadowed. */
        int deciding() {
            int found = 0;
            for (int number = 0; number < cases; number++) {
                int matching = rulesFor(number);
                found |= matching & -matching;
            }
            return found;
        }

        int setOf(int rule, int condition) {
            return sets[rule * MAX_CONDITIONS + condition];
        }

        boolean inConflict(int low, int high) {
            if (actions[low] == actions[high]) {
                return false;
            }
            for (int c = 0; c < conditions; c++) {
                if ((setOf(low, c) & setOf(high, c)) == 0) {
                    return false;
                }
            }
            return true;
        }

        /** Asked only of rules that overlap: the lowest common value of each condition. */
        int lowestCommonCase(int low, int high) {
            int number = 0;
            for (int c = 0; c < conditions; c++) {
                number += lowestValue(setOf(low, c) & setOf(high, c)) * strides[c];
            }
            return number;
        }

        private static int lowestValue(int set) {
            for (int v = 0; v < MAX_VALUES; v++) {
                if ((set >> v & 1) != 0) {
                    return v;
                }
            }
            return 0;
        }

        /** Makes room at a place from 0 to the number of rules; the caller has seen that there is some. */
        void putRule(int rule, RuleText text) {
            for (int r = rules; r > rule; r--) {
                moveRule(r - 1, r);
            }
            System.arraycopy(text.sets, 0, sets, rule * MAX_CONDITIONS, MAX_CONDITIONS);
            actions[rule] = text.action;
            rules++;
            indexRules();
        }

        void dropRule(int rule) {
            for (int r = rule + 1; r < rules; r++) {
                moveRule(r, r - 1);
            }
            rules--;
            indexRules();
        }

        private void moveRule(int from, int to) {
            System.arraycopy(sets, from * MAX_CONDITIONS, sets, to * MAX_CONDITIONS, MAX_CONDITIONS);
            actions[to] = actions[from];
        }

        private void indexRules() {
            for (int c = 0; c < conditions; c++) {
                for (int v = 0; v < sizes[c]; v++) {
                    int found = 0;
                    for (int rule = 0; rule < rules; rule++) {
                        found |= (setOf(rule, c) >> v & 1) << rule;
                    }
                    rulesWith[c * MAX_VALUES + v] = found;
                }
            }
        }

        /** The lowest rule that can be merged with the next one, or -1. */
        int firstMergeable() {
            for (int rule = 0; rule + 1 < rules; rule++) {
                if (actions[rule] == actions[rule + 1] && differences(rule, rule + 1) <= 1) {
                    return rule;
                }
            }
            return -1;
        }

        private int differences(int low, int high) {
            int count = 0;
            for (int c = 0; c < conditions; c++) {
                if (setOf(low, c) != setOf(high, c)) {
                    count++;
                }
            }
            return count;
        }

        void mergeWithNext(int rule) {
            for (int c = 0; c < conditions; c++) {
                sets[rule * MAX_CONDITIONS + c] |= setOf(rule + 1, c);
            }
            dropRule(rule + 1);
        }
    }

    /** The bytes that wait to be read as a rule. */
    private static final class InputBuffer {
        int length;
        final byte[] bytes = new byte[MAX_INPUT];

        void add(int value, int count) {
            for (int i = 0; i < count && length < MAX_INPUT; i++) {
                bytes[length] = (byte) value;
                length++;
            }
        }
    }

    /** Reads the text of a rule byte by byte, so that the first wrong byte is known by its position. */
    private static final class RuleText {
        private static final int SET_START = 0;
        private static final int IN_DIGITS = 1;
        private static final int AFTER_STAR = 2;
        private static final int ACTION_START = 3;
        private static final int COMPLETE = 4;

        int action;
        final int[] sets = new int[MAX_CONDITIONS];
        private int state;
        private int condition;

        /** The position of the fault, which is the length if the text ends too early, or -1. */
        int read(InputBuffer input, Table table) {
            Arrays.fill(sets, 0);
            action = 0;
            condition = 0;
            state = SET_START;
            for (int i = 0; i < input.length; i++) {
                if (!accept(input.bytes[i], table)) {
                    return i;
                }
            }
            return state == COMPLETE ? -1 : input.length;
        }

        private boolean accept(int sign, Table table) {
            switch (state) {
                case SET_START:
                    return acceptStar(sign, table) || acceptValue(sign, table);
                case IN_DIGITS:
                    return acceptValue(sign, table) || acceptSeparator(sign, table);
                case AFTER_STAR:
                    return acceptSeparator(sign, table);
                case ACTION_START:
                    return acceptAction(sign);
                default:
                    return false;
            }
        }

        private boolean acceptStar(int sign, Table table) {
            if (sign != '*') {
                return false;
            }
            sets[condition] = (1 << table.sizes[condition]) - 1;
            state = AFTER_STAR;
            return true;
        }

        private boolean acceptValue(int sign, Table table) {
            int value = sign - '0';
            if (!table.hasValue(condition, value)) {
                return false;
            }
            sets[condition] |= 1 << value;
            state = IN_DIGITS;
            return true;
        }

        private boolean acceptSeparator(int sign, Table table) {
            boolean last = condition + 1 >= table.conditions;
            if (sign != (last ? ':' : ',')) {
                return false;
            }
            if (last) {
                state = ACTION_START;
            } else {
                condition++;
                state = SET_START;
            }
            return true;
        }

        private boolean acceptAction(int sign) {
            if (sign < '0' || sign > '9') {
                return false;
            }
            action = sign - '0';
            state = COMPLETE;
            return true;
        }
    }

    /**
     * Finds the rank of the best tree for every cube. A cube is the set of cases in which each condition has
     * one given value or is open. Its number has a digit for each condition: the value, or the number of
     * values if the condition is open. So the parts of a cube have lower numbers than the cube, and the last
     * cube is the whole table. The rank of a tree is its expected cost in the high bits and its number of
     * nodes in the low ones, so that the lowest rank has the minimum cost and, with it, the fewest nodes.
     */
    private static final class Planner {
        /** More than the bits of MAX_NODES, so that the nodes never reach into the cost. */
        private static final int COST_SHIFT = 10;
        private static final long LEAF_RANK = 1;
        /** Above every rank: no cost reaches 28 bits. */
        private static final long NO_RANK = 1L << 62;

        private int cubes;
        private final int[] steps = new int[MAX_CONDITIONS];
        private final int[] weights = new int[MAX_CUBES];
        /** The action that all cases of the cube have, or MIXED_ACTIONS. */
        final int[] actions = new int[MAX_CUBES];
        private final long[] ranks = new long[MAX_CUBES];

        void plan(Table table) {
            cubes = 1;
            for (int c = table.conditions - 1; c >= 0; c--) {
                steps[c] = cubes;
                cubes *= table.sizes[c] + 1;
            }
            for (int cube = 0; cube < cubes; cube++) {
                gather(cube, table);
                ranks[cube] = actions[cube] == MIXED_ACTIONS ? lowestRank(cube, table) : LEAF_RANK;
            }
        }

        int whole() {
            return cubes - 1;
        }

        /** The part of a cube in which an open condition has the value. */
        int part(int cube, int condition, int value, Table table) {
            return cube - (table.sizes[condition] - value) * steps[condition];
        }

        long lowestCost() {
            return ranks[whole()] >> COST_SHIFT;
        }

        long costWithTest(int condition, Table table) {
            return rankOfTest(whole(), condition, table) >> COST_SHIFT;
        }

        /** The lowest condition that the best tree of a cube can test first, or NO_TEST for a leaf. */
        int bestTest(int cube, Table table) {
            if (actions[cube] != MIXED_ACTIONS) {
                return NO_TEST;
            }
            for (int c = 0; c < table.conditions; c++) {
                if (isOpen(cube, c, table) && rankOfTest(cube, c, table) == ranks[cube]) {
                    return c;
                }
            }
            return NO_TEST;
        }

        private long lowestRank(int cube, Table table) {
            long lowest = NO_RANK;
            for (int c = 0; c < table.conditions; c++) {
                if (isOpen(cube, c, table)) {
                    lowest = Math.min(lowest, rankOfTest(cube, c, table));
                }
            }
            return lowest;
        }

        private long rankOfTest(int cube, int condition, Table table) {
            long rank = ((long) table.costs[condition] * weights[cube] << COST_SHIFT) + 1;
            for (int v = 0; v < table.sizes[condition]; v++) {
                rank += ranks[part(cube, condition, v, table)];
            }
            return rank;
        }

        private int digitIn(int cube, int condition, Table table) {
            return remainder(quotient(cube, steps[condition]), table.sizes[condition] + 1);
        }

        private boolean isOpen(int cube, int condition, Table table) {
            return digitIn(cube, condition, table) == table.sizes[condition];
        }

        /** Finds the weight and the action of a cube from its parts, or from its only case. */
        private void gather(int cube, Table table) {
            int number = 0;
            for (int c = 0; c < table.conditions; c++) {
                if (isOpen(cube, c, table)) {
                    gatherParts(cube, c, table);
                    return;
                }
                number += digitIn(cube, c, table) * table.strides[c];
            }
            weights[cube] = table.weightOf(number);
            actions[cube] = table.actionFor(number);
        }

        private void gatherParts(int cube, int condition, Table table) {
            int weight = 0;
            int action = actions[part(cube, condition, 0, table)];
            for (int v = 0; v < table.sizes[condition]; v++) {
                int piece = part(cube, condition, v, table);
                weight += weights[piece];
                if (actions[piece] != action) {
                    action = MIXED_ACTIONS;
                }
            }
            weights[cube] = weight;
            actions[cube] = action;
        }
    }

    /**
     * The compiled tree in preorder. The first child of a node is the next node, and a node's extent, the
     * number of nodes of its subtree, leads to its next sibling.
     */
    private static final class Tree {
        int count;
        int worst;
        long expected;
        int classCount;
        final int[] tests = new int[MAX_NODES];
        /** The action of a leaf; NO_ACTION for a node with a test too. */
        final int[] actions = new int[MAX_NODES];
        final int[] extents = new int[MAX_NODES];
        final int[] depths = new int[MAX_NODES];
        /** The class of equal subtrees to which the subtree of a node belongs. */
        final int[] classes = new int[MAX_NODES];
        /** The lowest node of each class. */
        final int[] lowest = new int[MAX_CLASSES];
        /** The class of the leaves with each action, the leaves without one first, or -1. */
        private final int[] leafClasses = new int[MAX_ACTION + 2];

        void build(Planner planner, Table table) {
            count = 0;
            worst = 0;
            expected = planner.lowestCost();
            place(planner, table, planner.whole(), 0, 0);
            share(table);
        }

        boolean hasNode(int node) {
            return node >= 0 && node < count;
        }

        /** Appends the subtree of a cube; spent is the cost of the tests above it. */
        private void place(Planner planner, Table table, int cube, int depth, int spent) {
            if (count >= MAX_NODES || depth > MAX_CONDITIONS) {
                return;
            }
            int node = count;
            int condition = planner.bestTest(cube, table);
            count++;
            tests[node] = condition;
            actions[node] = condition == NO_TEST ? planner.actions[cube] : NO_ACTION;
            depths[node] = depth;
            worst = Math.max(worst, spent);
            if (condition != NO_TEST) {
                int sum = spent + table.costs[condition];
                for (int v = 0; v < table.sizes[condition]; v++) {
                    place(planner, table, planner.part(cube, condition, v, table), depth + 1, sum);
                }
            }
            extents[node] = count - node;
        }

        /** The child of a node that tests a condition which has the value. */
        int branch(int node, int value) {
            int next = node + 1;
            for (int v = 0; v < value && next < count; v++) {
                next += extents[next];
            }
            return next;
        }

        int leafFor(int number, Table table) {
            int node = 0;
            for (int depth = 0; depth < MAX_CONDITIONS; depth++) {
                if (!hasNode(node) || tests[node] == NO_TEST) {
                    break;
                }
                node = branch(node, table.digitOf(number, tests[node]));
            }
            return node;
        }

        /** Upwards from the last node, so that children have their class before their parent. */
        private void share(Table table) {
            classCount = 0;
            Arrays.fill(leafClasses, -1);
            for (int node = count - 1; node >= 0; node--) {
                int found = tests[node] == NO_TEST ? leafClasses[actions[node] + 1] : equalTest(node, table);
                if (found < 0) {
                    found = classCount;
                    classCount++;
                }
                if (tests[node] == NO_TEST) {
                    leafClasses[actions[node] + 1] = found;
                }
                classes[node] = found;
                lowest[found] = node;
            }
        }

        /** The class of a later node with an equal subtree, or -1. */
        private int equalTest(int node, Table table) {
            for (int k = 0; k < classCount; k++) {
                if (sameTest(node, lowest[k], table)) {
                    return k;
                }
            }
            return -1;
        }

        private boolean sameTest(int node, int other, Table table) {
            if (tests[node] != tests[other] || extents[node] != extents[other]) {
                return false;
            }
            int mine = node + 1;
            int theirs = other + 1;
            for (int v = 0; v < table.sizes[tests[node]]; v++) {
                if (!hasNode(mine) || !hasNode(theirs) || classes[mine] != classes[theirs]) {
                    return false;
                }
                mine += extents[mine];
                theirs += extents[theirs];
            }
            return true;
        }
    }

    /** An array of any of the four types: its elements are held narrowed to the type. */
    private static final class Slot {
        boolean used;
        int type;
        int size;
        final long[] elements = new long[MAX_ELEMENTS];

        void fillWith(int newType, int newSize) {
            used = true;
            type = newType;
            size = newSize;
            Arrays.fill(elements, 0L);
        }

        boolean hasIndex(int index) {
            return index >= 0 && index < size;
        }

        /** Compared by a difference, since a sum could overflow. */
        boolean hasRange(int start, int count) {
            return start >= 0 && count >= 0 && start <= size && count <= size - start;
        }

        void put(int index, long value) {
            elements[index] = narrow(value);
        }

        private long narrow(long value) {
            switch (type) {
                case BOOLEAN_TYPE:
                    return value != 0 ? 1 : 0;
                case BYTE_TYPE:
                    return (byte) value;
                case INT_TYPE:
                    return (int) value;
                default:
                    return value;
            }
        }
    }
}
