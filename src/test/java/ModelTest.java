import java.util.Random;

/** Long runs of calls, the same ones every time, whose answers must be those of the model. */
public final class ModelTest {
    private static final int RUNS = 250;
    private static final int CALLS = 512;
    /** No step makes more calls, so that no object is used for more than CALLS. */
    private static final int STEP = 45;

    private final Random random;
    private final DecisionTableCompiler x = new DecisionTableCompiler();
    private final Model model = new Model();
    private final int run;
    /** Large tables make the model slow, so most runs have small ones. */
    private final int maxSize;
    private final int maxConditions;
    private int calls;

    private ModelTest(int run) {
        this.run = run;
        random = new Random(run);
        maxSize = run % 50 == 0 ? 5 : 3 + run % 2;
        maxConditions = run % 50 == 0 ? 4 : 1 + run % 4;
    }

    public static void main(String[] args) {
        for (int run = 1; run <= RUNS; run++) {
            ModelTest one = new ModelTest(run);
            while (one.calls + STEP <= CALLS) {
                one.step();
            }
        }
        Due.close();
    }

    private void due(String call, long got, long want) {
        calls++;
        Due.due("run " + run + ", call " + calls + ": " + call, got, want);
    }

    /** Mostly from 0 to the limit, sometimes just beyond it, seldom far away. */
    private int near(int limit) {
        int kind = random.nextInt(40);
        if (kind == 0) {
            return random.nextInt();
        }
        if (kind == 1) {
            return random.nextBoolean() ? Integer.MIN_VALUE : Integer.MAX_VALUE;
        }
        if (kind < 6) {
            return limit + random.nextInt(3) - 1;
        }
        if (kind < 9) {
            return -1 - random.nextInt(2);
        }
        return random.nextInt(Math.max(1, limit));
    }

    private void step() {
        int kind = random.nextInt(100);
        if (kind < 20) {
            writeRule();
        } else if (kind < 34) {
            changeTable();
        } else if (kind < 50) {
            askRules();
        } else if (kind < 60) {
            askRelations();
        } else if (kind < 82) {
            askTree();
        } else if (kind < 98) {
            useArrays();
        } else {
            changeShape();
        }
    }

    private String ruleText() {
        StringBuilder text = new StringBuilder();
        for (int c = 0; c < model.conditionCount(); c++) {
            text.append(c == 0 ? "" : ",");
            if (random.nextInt(3) == 0) {
                text.append('*');
            } else {
                int digits = 1 + random.nextInt(3);
                for (int i = 0; i < digits; i++) {
                    text.append(random.nextInt(random.nextInt(30) == 0 ? 10 : 2 + random.nextInt(maxSize - 1)));
                }
            }
        }
        text.append(':').append(random.nextInt(random.nextInt(6) == 0 ? 10 : 3));
        if (random.nextInt(8) == 0) {
            int at = random.nextInt(text.length());
            text.setCharAt(at, "0123456789*,: ;/".charAt(random.nextInt(16)));
        }
        if (random.nextInt(12) == 0) {
            text.setLength(random.nextInt(text.length() + 1));
        }
        if (random.nextInt(20) == 0) {
            text.append("01*,:~".charAt(random.nextInt(6)));
        }
        return text.toString();
    }

    private void writeRule() {
        String text = ruleText();
        int i = 0;
        while (i < text.length()) {
            int end = i + 1;
            while (end < text.length() && text.charAt(end) == text.charAt(i)) {
                end++;
            }
            due("append", x.append(text.charAt(i), end - i), model.append(text.charAt(i), end - i));
            i = end;
        }
        if (random.nextInt(30) == 0) {
            int value = near(128);
            int count = near(41);
            due("append(" + value + ", " + count + ")", x.append(value, count), model.append(value, count));
        }
        if (random.nextInt(30) == 0) {
            due("clearInput()", x.clearInput(), model.clearInput());
        }
        if (random.nextInt(3) > 0) {
            due("addRule() of " + text, x.addRule(), model.addRule());
        } else {
            int rule = near(model.ruleCount() + 1);
            due("insertRule(" + rule + ") of " + text, x.insertRule(rule), model.insertRule(rule));
        }
    }

    private void changeTable() {
        int a = near(model.conditionCount());
        int b = near(maxSize);
        int c = random.nextInt(4) == 0 ? 0 : near(10);
        switch (random.nextInt(10)) {
            case 0: case 1: case 2:
                due("setWeight(" + a + ", " + b + ", " + c + ")", x.setWeight(a, b, c), model.setWeight(a, b, c));
                break;
            case 3: case 4:
                due("setCost(" + a + ", " + c + ")", x.setCost(a, c), model.setCost(a, c));
                break;
            case 5:
                due("setDefault(" + c + ")", x.setDefault(c), model.setDefault(c));
                break;
            case 6:
                int rule = near(model.ruleCount());
                due("removeRule(" + rule + ")", x.removeRule(rule), model.removeRule(rule));
                break;
            case 7:
                due("removeShadowed()", x.removeShadowed(), model.removeShadowed());
                break;
            case 8:
                due("mergeRules()", x.mergeRules(), model.mergeRules());
                break;
            default:
                due("setDefault(-1)", x.setDefault(-1), model.setDefault(-1));
        }
    }

    private int size(int condition) {
        if (random.nextInt(25) == 0) {
            return near(7);
        }
        return condition < maxConditions ? 2 + random.nextInt(maxSize - 1) : 0;
    }

    private void changeShape() {
        int a = size(0);
        int b = size(1);
        int c = size(2);
        int d = size(3);
        switch (random.nextInt(4)) {
            case 0:
                due("snapshot()", x.snapshot(), model.snapshot());
                break;
            case 1:
                due("restore()", x.restore(), model.restore());
                break;
            default:
                String call = "reset(" + a + ", " + b + ", " + c + ", " + d + ")";
                due(call, x.reset(a, b, c, d), model.reset(a, b, c, d));
        }
    }

    private void askRules() {
        int rule = near(model.ruleCount());
        int number = near(model.caseCount());
        int c = near(model.conditionCount());
        switch (random.nextInt(13)) {
            case 0: due("conditionCount()", x.conditionCount(), model.conditionCount()); break;
            case 1: due("caseCount()", x.caseCount(), model.caseCount()); break;
            case 2: due("valueIn(" + number + ", " + c + ")", x.valueIn(number, c), model.valueIn(number, c)); break;
            case 3: due("ruleCount()", x.ruleCount(), model.ruleCount()); break;
            case 4: due("ruleSet(" + rule + ", " + c + ")", x.ruleSet(rule, c), model.ruleSet(rule, c)); break;
            case 5: due("ruleAction(" + rule + ")", x.ruleAction(rule), model.ruleAction(rule)); break;
            case 6: due("ruleCases(" + rule + ")", x.ruleCases(rule), model.ruleCases(rule)); break;
            case 7: due("firstMatch(" + number + ")", x.firstMatch(number), model.firstMatch(number)); break;
            case 8: due("matches(" + number + ")", x.matches(number), model.matches(number)); break;
            case 9: due("action(" + number + ")", x.action(number), model.action(number)); break;
            case 10: due("gapCount()", x.gapCount(), model.gapCount()); break;
            case 11:
                int index = near(model.gapCount());
                due("gap(" + index + ")", x.gap(index), model.gap(index));
                break;
            default: due("gapWeight()", x.gapWeight(), model.gapWeight());
        }
    }

    private void askRelations() {
        int rule = near(model.ruleCount());
        switch (random.nextInt(3)) {
            case 0: due("conflictCount()", x.conflictCount(), model.conflictCount()); break;
            case 1:
                int index = near(model.conflictCount());
                int what = near(3);
                due("conflict(" + index + ", " + what + ")", x.conflict(index, what), model.conflict(index, what));
                break;
            default: due("isShadowed(" + rule + ")", x.isShadowed(rule), model.isShadowed(rule));
        }
    }

    private void askTree() {
        if (model.worstCost() == -7 && random.nextInt(3) > 0) {
            due("compile()", x.compile(), model.compile());
        }
        int nodes = Math.max(1, model.node(0, 2));
        int node = near(nodes);
        int number = near(model.caseCount());
        int c = near(model.conditionCount());
        int v = near(maxSize);
        int what = near(4);
        switch (random.nextInt(9)) {
            case 0: due("expectedCost()", x.expectedCost(), model.expectedCost()); break;
            case 1: due("worstCost()", x.worstCost(), model.worstCost()); break;
            case 2: due("node(" + node + ", " + what + ")", x.node(node, what), model.node(node, what)); break;
            case 3: due("child(" + node + ", " + v + ")", x.child(node, v), model.child(node, v)); break;
            case 4: due("leafOf(" + number + ")", x.leafOf(number), model.leafOf(number)); break;
            case 5: due("sharedNodeCount()", x.sharedNodeCount(), model.sharedNodeCount()); break;
            case 6: due("sharedNode(" + node + ")", x.sharedNode(node), model.sharedNode(node)); break;
            case 7: due("costWithRoot(" + c + ")", x.costWithRoot(c), model.costWithRoot(c)); break;
            default:
                int seed = random.nextInt();
                int draws = near(random.nextInt(3) == 0 ? 501 : 20);
                int action = random.nextInt(3) == 0 ? -1 : near(random.nextBoolean() ? 10 : 3);
                String call = "sample(" + seed + ", " + draws + ", " + action + ")";
                due(call, x.sample(seed, draws, action), model.sample(seed, draws, action));
        }
    }

    private void useArrays() {
        int a = near(4);
        int b = near(4);
        int i = near(20);
        int k = near(20);
        int count = near(12);
        long value = random.nextBoolean() ? random.nextInt(10) - 1 : random.nextLong();
        switch (random.nextInt(8)) {
            case 0:
                int size = random.nextInt(10) == 0 ? near(701) : near(20);
                int type = random.nextBoolean() ? 1 : near(4);
                due("allocate(" + a + ", " + type + ", " + size + ")", x.allocate(a, type, size), model.allocate(a, type, size));
                break;
            case 1:
                if (random.nextInt(3) == 0) {
                    due("release(" + a + ")", x.release(a), model.release(a));
                }
                break;
            case 2: case 3:
                due("putElement(" + a + ", " + i + ", " + value + ")", x.putElement(a, i, value), model.putElement(a, i, value));
                break;
            case 4: due("element(" + a + ", " + i + ")", x.element(a, i), model.element(a, i)); break;
            case 5:
                String call = "copyElements(" + a + ", " + i + ", " + b + ", " + k + ", " + count + ")";
                due(call, x.copyElements(a, i, b, k, count), model.copyElements(a, i, b, k, count));
                break;
            case 6: due("storeActions(" + a + ")", x.storeActions(a), model.storeActions(a)); break;
            default: due("compareActions(" + a + ")", x.compareActions(a), model.compareActions(a));
        }
    }
}
