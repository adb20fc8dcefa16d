/** Promise 38: sample. */
public final class SampleTest {
    private static final int MIN = Integer.MIN_VALUE;
    private static final int MAX = Integer.MAX_VALUE;

    public static void main(String[] args) {
        faults();
        steps();
        sums();
        skipsWeightZero();
        Due.close();
    }

    private static void faults() {
        DecisionTableCompiler x = new DecisionTableCompiler();
        for (int bad : new int[] {MIN, -1, 501, MAX}) {
            Due.due("sample of " + bad + " draws", x.sample(0, bad, 0), -1);
        }
        for (int bad : new int[] {MIN, -2, 10, MAX}) {
            Due.due("sample of action " + bad, x.sample(0, 1, bad), -1);
            Due.due("sample of action " + bad, x.sample(0, 0, bad), -1);
        }
        Due.due("no draws", x.sample(MIN, 0, -1), 0);
        Due.due("500 draws", x.sample(MAX, 500, -1), 500);
        Due.due("500 draws, none with an action", x.sample(MAX, 500, 0), 0);
    }

    /** The first draws from seed 1, by hand: 1103527590 has 16838 above its low half, and so on. */
    private static void steps() {
        DecisionTableCompiler x = Due.table(Due.sizes(5), "0:0", "1:1", "2:2", "3:3");
        int state = 1;
        int[] counts = new int[5];
        for (int draw = 1; draw <= 90; draw++) {
            state = state * 1103515245 + 12345;
            counts[(state >>> 16) % 5]++;
            for (int v = 0; v < 5; v++) {
                Due.due("sample(1, " + draw + ", " + v + ")", x.sample(1, draw, v == 4 ? -1 : v), counts[v]);
            }
        }
        Due.due("16838 modulo 5 is 3", x.sample(1, 1, 3), 1);
    }

    private static void sums() {
        DecisionTableCompiler x = Due.table(Due.sizes(2, 3, 4, 5), "0,0,*,*:0", "0,*,0,*:1", "*,*,12,024:2", "1,2,*,*:3");
        x.setDefault(4);
        x.setWeight(0, 0, 9);
        x.setWeight(1, 1, 0);
        x.setWeight(2, 3, 7);
        x.setWeight(3, 4, 5);
        for (int seed : new int[] {MIN, -77, 0, 5, 123456789, MAX}) {
            int sum = 0;
            for (int action = -1; action < 10; action++) {
                sum += x.sample(seed, 500, action);
            }
            Due.due("all draws of seed " + seed, sum, 500);
            Due.due("none has no action", x.sample(seed, 500, -1), 0);
            Due.due("the same again", x.sample(seed, 300, 2), x.sample(seed, 300, 2));
        }
    }

    private static void skipsWeightZero() {
        DecisionTableCompiler x = Due.table(Due.sizes(3, 2), "1,1:5");
        x.setWeight(0, 0, 0);
        x.setWeight(0, 2, 0);
        x.setWeight(1, 0, 0);
        Due.due("the only case with a weight", x.sample(99, 400, 5), 400);
        Due.due("the others", x.sample(99, 400, -1), 0);
    }
}
