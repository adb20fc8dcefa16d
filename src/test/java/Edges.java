import java.lang.reflect.InvocationTargetException;
import java.lang.reflect.Method;
import java.util.ArrayList;
import java.util.Comparator;
import java.util.List;

/**
 * What the tests of boundary cases share. Each of their methods bears the sentence that it tests, and all of
 * them are found and run, so that none is forgotten. No object in them is used for more than 512 calls.
 */
abstract class Edges {
    static final int MIN = Integer.MIN_VALUE;
    static final int MAX = Integer.MAX_VALUE;

    // Written out, since the class's own constants are under test too.
    static final int BAD_ARGUMENT = -1;
    static final int NO_SUCH_CONDITION = -2;
    static final int NO_SUCH_RULE = -3;
    static final int FULL = -4;
    static final int NO_SUCH_CASE = -5;
    static final int NONE = -6;
    static final int NOT_COMPILED = -7;
    static final int EMPTY_SLOT = -11;
    static final int WRONG_TYPE = -12;
    static final int INDEX_OUT_OF_RANGE = -13;
    static final int NEGATIVE_SIZE = -14;
    static final int MALFORMED = -1000;
    static final long NO_VALUE = Long.MIN_VALUE;

    static final int BOOLEANS = 0;
    static final int BYTES = 1;
    static final int INTS = 2;
    static final int LONGS = 3;

    private static String heading = "";

    static List<Method> testsOf(Class<?> tests) {
        List<Method> found = new ArrayList<>();
        for (Method method : tests.getDeclaredMethods()) {
            if (method.isAnnotationPresent(Sentence.class)) {
                found.add(method);
            }
        }
        found.sort(Comparator.comparingInt((Method m) -> m.getAnnotation(Sentence.class).promise())
                .thenComparing(Method::getName));
        return found;
    }

    static void runAll(Class<?> tests) throws IllegalAccessException, InvocationTargetException {
        for (Method method : testsOf(tests)) {
            Sentence sentence = method.getAnnotation(Sentence.class);
            heading = "promise " + sentence.promise() + " \"" + sentence.says() + "\", " + method.getName() + ": ";
            method.setAccessible(true);
            method.invoke(null);
        }
        Due.close();
    }

    static void due(String call, long got, long want) {
        Due.due(heading + call, got, want);
    }

    static DecisionTableCompiler fresh() {
        return new DecisionTableCompiler();
    }

    static DecisionTableCompiler table(int first, int second, int third, int fourth, String... rules) {
        DecisionTableCompiler x = fresh();
        x.reset(first, second, third, fourth);
        for (String rule : rules) {
            due("addRule of " + rule, Due.add(x, rule), x.ruleCount() - 1);
        }
        return x;
    }

    /** A table of 2 and 3 values with as many rules as are asked for, their actions counting up. */
    static DecisionTableCompiler withRules(int count) {
        DecisionTableCompiler x = table(2, 3, 0, 0);
        for (int rule = 0; rule < count; rule++) {
            due("addRule " + rule, Due.add(x, rule % 2 + "," + rule % 3 + ":" + rule % 10), rule);
        }
        return x;
    }

    /** A table of 5, 5, 5 and 5 values with all weights at 9. */
    static DecisionTableCompiler heaviest(String... rules) {
        DecisionTableCompiler x = table(5, 5, 5, 5, rules);
        for (int c = 0; c < 4; c++) {
            for (int v = 0; v < 5; v++) {
                x.setWeight(c, v, 9);
            }
        }
        return x;
    }

    static int[] numbers(int... numbers) {
        return numbers;
    }
}
