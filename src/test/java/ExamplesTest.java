/** The three examples of the document, call by call, each on a new object. */
public final class ExamplesTest {
    public static void main(String[] args) {
        first();
        second();
        third();
        Due.close();
    }

    private static void first() {
        DecisionTableCompiler x = new DecisionTableCompiler();
        Due.due("1 reset(2, 3, 0, 0)", x.reset(2, 3, 0, 0), 6);
        Due.due("1 append(48, 1)", x.append(48, 1), 1);
        Due.due("1 append(44, 1)", x.append(44, 1), 2);
        Due.due("1 append(42, 1)", x.append(42, 1), 3);
        Due.due("1 append(58, 1)", x.append(58, 1), 4);
        Due.due("1 append(49, 1)", x.append(49, 1), 5);
        Due.due("1 addRule()", x.addRule(), 0);
        Due.due("1 gapCount()", x.gapCount(), 3);
        Due.due("1 compile()", x.compile(), 3);
        Due.due("1 node(0, 0)", x.node(0, 0), 0);
        Due.due("1 child(0, 0)", x.child(0, 0), 1);
        Due.due("1 node(1, 1)", x.node(1, 1), 1);
        Due.due("1 expectedCost()", x.expectedCost(), 6);
    }

    private static void second() {
        DecisionTableCompiler x = new DecisionTableCompiler();
        Due.due("2 append(48, 1)", x.append(48, 1), 1);
        Due.due("2 append(44, 1)", x.append(44, 1), 2);
        Due.due("2 append(50, 1)", x.append(50, 1), 3);
        Due.due("2 append(58, 1)", x.append(58, 1), 4);
        Due.due("2 append(49, 1)", x.append(49, 1), 5);
        Due.due("2 addRule()", x.addRule(), -1002);
        Due.due("2 firstMatch(0)", x.firstMatch(0), -6);
        Due.due("2 action(0)", x.action(0), -6);
        Due.due("2 compile()", x.compile(), 1);
        Due.due("2 sharedNodeCount()", x.sharedNodeCount(), 1);
        Due.due("2 child(0, 0)", x.child(0, 0), -6);
    }

    private static void third() {
        DecisionTableCompiler x = new DecisionTableCompiler();
        Due.due("3 setWeight(0, 0, 0)", x.setWeight(0, 0, 0), 1);
        Due.due("3 setWeight(0, 1, 0)", x.setWeight(0, 1, 0), -1);
        Due.due("3 setDefault(4)", x.setDefault(4), -6);
        Due.due("3 sample(7, 20, 4)", x.sample(7, 20, 4), 20);
        Due.due("3 storeActions(0)", x.storeActions(0), 4);
        Due.due("3 element(0, 3)", x.element(0, 3), 4);
        Due.due("3 setCost(0, 10)", x.setCost(0, 10), -1);
    }
}
