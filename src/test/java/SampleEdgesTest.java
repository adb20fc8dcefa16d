import java.math.BigInteger;

/** The boundary cases of promise 38. */
public final class SampleEdgesTest extends Edges {
    private static final int[] SEEDS = {MIN, MIN + 1, -1, 0, 1, 65535, 65536, MAX};

    public static void main(String[] args) throws Exception {
        runAll(SampleEdgesTest.class);
    }

    /** The next seed without an int's own wrap-around: the low 32 bits of the exact result, with their sign. */
    private static int next(int x) {
        BigInteger exact = BigInteger.valueOf(x).multiply(BigInteger.valueOf(1103515245)).add(BigInteger.valueOf(12345));
        long low = exact.mod(BigInteger.ONE.shiftLeft(32)).longValue();
        return (int) (low >= 1L << 31 ? low - (1L << 32) : low);
    }

    /** The upper half of a seed as a number from 0 to 65535. */
    private static int upper(int x) {
        long low = x < 0 ? x + (1L << 32) : x;
        return (int) (low / 65536);
    }

    /** The value that a mark falls on if each value has as many places as its weight says. */
    private static int valueAt(int mark, int[] weights) {
        StringBuilder places = new StringBuilder();
        for (int v = 0; v < weights.length; v++) {
            places.append(("" + v).repeat(weights[v]));
        }
        return places.charAt(mark % places.length()) - '0';
    }

    /** A table in which the action of each case is its number. */
    private static DecisionTableCompiler numbered(int[] first, int[] second) {
        DecisionTableCompiler x = table(first.length, second.length, 0, 0);
        for (int number = 0; number < first.length * second.length; number++) {
            Due.add(x, number / second.length + "," + number % second.length + ":" + number);
        }
        for (int v = 0; v < first.length; v++) {
            x.setWeight(0, v, first[v]);
        }
        for (int v = 0; v < second.length; v++) {
            x.setWeight(1, v, second[v]);
        }
        return x;
    }

    private static void samplesAre(int seed, int draws, int[] first, int[] second) {
        DecisionTableCompiler x = numbered(first, second);
        int[] counts = new int[10];
        int state = seed;
        for (int draw = 0; draw < draws; draw++) {
            state = next(state);
            int upper = valueAt(upper(state), first);
            state = next(state);
            counts[upper * second.length + valueAt(upper(state), second)]++;
        }
        for (int action = 0; action <= 9; action++) {
            due("sample(" + seed + ", " + draws + ", " + action + ")", x.sample(seed, draws, action), counts[action]);
        }
        due("sample(" + seed + ", " + draws + ", -1)", x.sample(seed, draws, -1), 0);
    }

    @Sentence(promise = 38, says = "the seed x becomes x * 1103515245 + 12345 as a Java int (with overflow)")
    private static void seedsWrapAround() {
        for (int seed : SEEDS) {
            DecisionTableCompiler x = table(5, 0, 0, 0, "0:0", "1:1", "2:2", "3:3", "4:4");
            int[] counts = new int[5];
            int state = seed;
            for (int draws = 1; draws <= 40; draws++) {
                state = next(state);
                counts[upper(state) % 5]++;
                for (int v = 0; v < 5; v++) {
                    due("sample(" + seed + ", " + draws + ", " + v + ")", x.sample(seed, draws, v), counts[v]);
                }
            }
        }
    }

    @Sentence(promise = 38, says = "For each draw and each condition in ascending order")
    private static void oneStepForEachCondition() {
        for (int seed : SEEDS) {
            for (int draws : numbers(1, 2, 3, 499, 500)) {
                samplesAre(seed, draws, new int[] {1, 3}, new int[] {1, 1, 2, 1, 5});
            }
        }
    }

    @Sentence(promise = 38, says = "the value is the lowest one for which the sum of the weights of the values up to it is above")
    private static void lowestValueAboveTheMark() {
        int[][] weights = {{1, 1, 1}, {0, 1, 2}, {1, 0, 2}, {9, 9, 0}, {0, 0, 9}, {9, 9, 9}, {1, 0, 0}, {0, 1, 0}};
        for (int[] row : weights) {
            for (int seed : SEEDS) {
                samplesAre(seed, 300, row, new int[] {1, 1});
                samplesAre(seed, 300, new int[] {9, 1}, row);
            }
        }
    }

    @Sentence(promise = 38, says = "the sum of all weights of the condition.")
    private static void lowestAndHighestSum() {
        for (int seed : SEEDS) {
            samplesAre(seed, 500, new int[] {9, 9, 9, 9, 9}, new int[] {1, 0});
            samplesAre(seed, 500, new int[] {0, 1}, new int[] {0, 0, 0, 0, 1});
            samplesAre(seed, 500, new int[] {9, 0}, new int[] {9, 8, 7, 6, 5});
        }
    }

    @Sentence(promise = 38, says = "the number of cases that are drawn, 0 to 500")
    private static void fewestAndMostDraws() {
        for (int seed : SEEDS) {
            DecisionTableCompiler x = fresh();
            due("no draws from " + seed, x.sample(seed, 0, -1), 0);
            due("one draw from " + seed, x.sample(seed, 1, -1), 1);
            due("500 draws from " + seed, x.sample(seed, 500, -1), 500);
        }
    }

    @Sentence(promise = 38, says = "the action, 0 to 9, or -1 for no action")
    private static void everyAction() {
        DecisionTableCompiler x = fresh();
        for (int drawn = -1; drawn <= 9; drawn++) {
            x.setDefault(drawn);
            for (int asked = -1; asked <= 9; asked++) {
                due("sample(3, 50, " + asked + ") of " + drawn, x.sample(3, 50, asked), asked == drawn ? 50 : 0);
            }
        }
    }

    @Sentence(promise = 38, says = "Returns how often")
    private static void theSameSeedAgain() {
        DecisionTableCompiler x = numbered(new int[] {1, 1}, new int[] {1, 1});
        int first = x.sample(77, 500, 3);
        due("some", first > 0 && first < 500 ? 1 : 0, 1);
        due("again", x.sample(77, 500, 3), first);
        due("all together", x.sample(77, 500, 0) + x.sample(77, 500, 1) + x.sample(77, 500, 2) + first, 500);
    }

    @Sentence(promise = 38, says = "BAD_ARGUMENT if draws or action is out of range.")
    private static void drawsOrActionOutOfRange() {
        DecisionTableCompiler x = fresh();
        for (int draws : numbers(MIN, -1, 501, MAX)) {
            for (int action : numbers(MIN, -2, -1, 0, 9, 10, MAX)) {
                due("sample(1, " + draws + ", " + action + ")", x.sample(1, draws, action), BAD_ARGUMENT);
            }
        }
        for (int action : numbers(MIN, -6, -2, 10, MAX)) {
            for (int draws : numbers(0, 1, 500)) {
                due("sample(1, " + draws + ", " + action + ")", x.sample(1, draws, action), BAD_ARGUMENT);
            }
        }
    }
}
