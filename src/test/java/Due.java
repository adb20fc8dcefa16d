/** Counts and prints the answers that are not as due; each test ends with close(). */
final class Due {
    private static int calls = 0;
    private static int wrong = 0;

    private Due() {
    }

    static void due(String call, long got, long want) {
        calls++;
        if (got != want) {
            wrong++;
            System.out.println(call + " answered " + got + ", due is " + want);
        }
    }

    /** Appends a text byte by byte. */
    static void write(DecisionTableCompiler x, String text) {
        for (int i = 0; i < text.length(); i++) {
            x.append(text.charAt(i), 1);
        }
    }

    static int add(DecisionTableCompiler x, String text) {
        write(x, text);
        return x.addRule();
    }

    static int insert(DecisionTableCompiler x, String text, int rule) {
        write(x, text);
        return x.insertRule(rule);
    }

    /** A new table of the given sizes with the given rules, all of which must be taken. */
    static DecisionTableCompiler table(int[] sizes, String... rules) {
        DecisionTableCompiler x = new DecisionTableCompiler();
        int cases = 1;
        int[] all = new int[4];
        for (int i = 0; i < sizes.length; i++) {
            all[i] = sizes[i];
            cases *= sizes[i];
        }
        due("reset", x.reset(all[0], all[1], all[2], all[3]), cases);
        for (int i = 0; i < rules.length; i++) {
            due("addRule of " + rules[i], add(x, rules[i]), i);
        }
        return x;
    }

    static int[] sizes(int... sizes) {
        return sizes;
    }

    static void close() {
        System.out.println(calls + " answers, " + wrong + " not as due");
        if (wrong != 0 || calls == 0) {
            System.exit(1);
        }
    }
}
