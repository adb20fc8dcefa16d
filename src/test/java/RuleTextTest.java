/** Promises 9 to 12: the input buffer and the reading of rules. */
public final class RuleTextTest {
    private static final int MIN = Integer.MIN_VALUE;
    private static final int MAX = Integer.MAX_VALUE;

    public static void main(String[] args) {
        append();
        clearInput();
        wellFormed();
        faults();
        everyByteEverywhere();
        shortTables();
        fullTable();
        addRuleAndTheTree();
        insertRule();
        insertRuleFaults();
        Due.close();
    }

    private static void append() {
        DecisionTableCompiler x = new DecisionTableCompiler();
        for (int bad : new int[] {MIN, -1, 128, MAX}) {
            Due.due("append of a wrong byte", x.append(bad, 1), -1);
        }
        for (int bad : new int[] {MIN, -1, 0, 41, MAX}) {
            Due.due("append of a wrong count", x.append(48, bad), -1);
        }
        Due.due("append 0", x.append(0, 1), 1);
        Due.due("append 127", x.append(127, 38), 39);
        Due.due("append 2 at 39", x.append(48, 2), -4);
        Due.due("append 41 at 39: the argument is checked first", x.append(48, 41), -1);
        Due.due("append 128 at 39: the argument is checked first", x.append(128, 2), -1);
        Due.due("append 1 at 39: nothing was appended before", x.append(48, 1), 40);
        Due.due("append 1 at 40", x.append(48, 1), -4);
        Due.due("clearInput", x.clearInput(), 40);
        Due.due("append 40 at 0", x.append(48, 40), 40);
    }

    private static void clearInput() {
        DecisionTableCompiler x = new DecisionTableCompiler();
        Due.due("clearInput of an empty buffer", x.clearInput(), 0);
        x.append('7', 3);
        Due.due("clearInput of 3", x.clearInput(), 3);
        Due.due("clearInput again", x.clearInput(), 0);
        Due.due("addRule after clearInput", Due.add(x, "0,0:0"), 0);
    }

    private static void wellFormed() {
        DecisionTableCompiler x = Due.table(Due.sizes(2, 3, 4, 5), "0,*,31,04:9", "*,*,*,*:0", "11,2222,0123,43210:5");
        Due.due("set of 0", x.ruleSet(0, 0), 1);
        Due.due("set of *", x.ruleSet(0, 1), 7);
        Due.due("set of 31", x.ruleSet(0, 2), 10);
        Due.due("set of 04", x.ruleSet(0, 3), 17);
        Due.due("action 9", x.ruleAction(0), 9);
        Due.due("stars", x.ruleSet(1, 0), 3);
        Due.due("stars", x.ruleSet(1, 2), 15);
        Due.due("stars", x.ruleSet(1, 3), 31);
        Due.due("action 0", x.ruleAction(1), 0);
        Due.due("repeated digits", x.ruleSet(2, 0), 2);
        Due.due("repeated digits", x.ruleSet(2, 1), 4);
        Due.due("all digits", x.ruleSet(2, 3), 31);
        Due.due("the text is consumed", x.clearInput(), 0);
        x.append('0', 34);
        Due.write(x, ",0,0,0");
        Due.due("a text that fills the buffer but ends too early", x.addRule(), -1040);
        x.append('0', 32);
        Due.due("a text that fills the buffer", Due.add(x, ",0,0,0:3"), 3);
    }

    private static void fault(String text, int position) {
        DecisionTableCompiler x = Due.table(Due.sizes(2, 3));
        Due.due("addRule of '" + text + "'", Due.add(x, text), -1000 - position);
        Due.due("no rule after '" + text + "'", x.ruleCount(), 0);
        Due.due("consumed: '" + text + "'", x.clearInput(), 0);
        Due.due("insertRule of '" + text + "'", Due.insert(x, text, 0), -1000 - position);
        Due.due("no rule after '" + text + "'", x.ruleCount(), 0);
        Due.due("consumed: '" + text + "'", x.clearInput(), 0);
    }

    private static void faults() {
        fault("", 0);
        fault("0", 1);
        fault("0,", 2);
        fault("0,2", 3);
        fault("0,2:", 4);
        fault("*,*:", 4);
        fault(",", 0);
        fault(":", 0);
        fault("2,0:1", 0);
        fault("02,0:1", 1);
        fault("0,3:1", 2);
        fault("0,03:1", 3);
        fault("*0,0:1", 1);
        fault("**,0:1", 1);
        fault("0*,0:1", 1);
        fault("0,*1:1", 3);
        fault("0,,1:1", 2);
        fault("0,:1", 2);
        fault("0:1", 1);
        fault("*:1", 1);
        fault("0,1,2:1", 3);
        fault("0,*,:1", 3);
        fault("0,1:*", 4);
        fault("0,1::", 4);
        fault("0,1:12", 5);
        fault("0,1:1,", 5);
        fault("0,1:1 ", 5);
        fault(" 0,1:1", 0);
        fault("0 ,1:1", 1);
        fault("0, 1:1", 2);
        fault("0,1 :1", 3);
        fault("0,1: 1", 4);
        fault("0,1:a", 4);
        fault("0,1:/", 4);
        fault("0,/:1", 2);
        fault("\0", 0);
    }

    /** At each place of a text each of the 128 bytes, against the bytes that may stand there. */
    private static void everyByteEverywhere() {
        String[] before = {"", "0", "*", "0,", "*,2", "1,*", "1,*:", "1,0:5"};
        String[] allowed = {"01*", "01,", ",", "012*", "012:", ":", "0123456789", ""};
        for (int i = 0; i < before.length; i++) {
            for (char sign = 0; sign < 128; sign++) {
                DecisionTableCompiler x = Due.table(Due.sizes(2, 3));
                int answer = Due.add(x, before[i] + sign + "~");
                boolean fine = allowed[i].indexOf(sign) >= 0;
                int position = before[i].length() + (fine ? 1 : 0);
                Due.due("'" + before[i] + "' and byte " + (int) sign, answer, -1000 - position);
            }
        }
    }

    private static void shortTables() {
        DecisionTableCompiler x = Due.table(Due.sizes(5), "4:8");
        Due.due("set for one condition", x.ruleSet(0, 0), 16);
        Due.due("a comma with one condition", Due.add(x, "4,0:8"), -1001);
        Due.due("a star with one condition", Due.add(x, "*:8"), 1);
        Due.due("value 5 of 5", Due.add(x, "05:8"), -1001);
        x = Due.table(Due.sizes(2, 2, 2), "0,1,*:0");
        Due.due("set of the third", x.ruleSet(0, 2), 3);
        Due.due("too few sets", Due.add(x, "0,1:0"), -1003);
        Due.due("too many sets", Due.add(x, "0,1,1,1:0"), -1005);
    }

    private static void fullTable() {
        DecisionTableCompiler x = new DecisionTableCompiler();
        for (int i = 0; i < 12; i++) {
            Due.due("addRule " + i, Due.add(x, "0,*:" + i % 10), i);
        }
        x.compile();
        Due.due("a rule too many", Due.add(x, "0,*:1"), -4);
        Due.due("consumed", x.clearInput(), 0);
        Due.due("full is checked before the text", Due.add(x, "!"), -4);
        Due.due("consumed", x.clearInput(), 0);
        Due.due("an empty text in a full table", x.addRule(), -4);
        Due.due("insert a rule too many", Due.insert(x, "0,*:1", 0), -4);
        Due.due("consumed", x.clearInput(), 0);
        Due.due("insert at the end", Due.insert(x, "0,*:1", 12), -4);
        Due.due("full is checked before the text", Due.insert(x, "!", 12), -4);
        Due.due("the number is checked before full", Due.insert(x, "0,*:1", 13), -3);
        Due.due("the number is checked before full", Due.insert(x, "0,*:1", -1), -3);
        Due.due("consumed", x.clearInput(), 0);
        Due.due("refused rules keep the tree", x.worstCost(), 1);
        Due.due("there are still 12", x.ruleCount(), 12);
        x.removeRule(3);
        Due.due("addRule after removeRule", Due.add(x, "1,1:7"), 11);
    }

    private static void addRuleAndTheTree() {
        DecisionTableCompiler x = new DecisionTableCompiler();
        x.compile();
        Due.due("a malformed rule", Due.add(x, "0"), -1001);
        Due.due("a malformed rule keeps the tree", x.worstCost(), 0);
        Due.due("a malformed rule, inserted", Due.insert(x, "0", 0), -1001);
        Due.due("a malformed rule keeps the tree", x.worstCost(), 0);
        Due.due("a rule", Due.add(x, "0,0:0"), 0);
        Due.due("addRule discards the tree", x.worstCost(), -7);
        x.compile();
        Due.due("a rule, inserted", Due.insert(x, "0,0:0", 1), 2);
        Due.due("insertRule discards the tree", x.worstCost(), -7);
    }

    private static void insertRule() {
        DecisionTableCompiler x = new DecisionTableCompiler();
        Due.due("insert the first", Due.insert(x, "0,0:0", 0), 1);
        Due.due("insert behind", Due.insert(x, "0,1:1", 1), 2);
        Due.due("insert in front", Due.insert(x, "1,0:2", 0), 3);
        Due.due("insert between", Due.insert(x, "1,1:3", 1), 4);
        int[] actions = {2, 3, 0, 1};
        int[] firsts = {2, 2, 1, 1};
        int[] seconds = {1, 2, 1, 2};
        for (int i = 0; i < 4; i++) {
            Due.due("action of rule " + i, x.ruleAction(i), actions[i]);
            Due.due("set 0 of rule " + i, x.ruleSet(i, 0), firsts[i]);
            Due.due("set 1 of rule " + i, x.ruleSet(i, 1), seconds[i]);
        }
        Due.due("the renumbered rules match", x.firstMatch(0), 2);
        Due.due("the inserted rules match", x.firstMatch(3), 1);
    }

    private static void insertRuleFaults() {
        DecisionTableCompiler x = Due.table(Due.sizes(2, 2), "0,0:0", "*,*:1");
        x.compile();
        for (int bad : new int[] {MIN, -1, 3, MAX}) {
            Due.due("insertRule(" + bad + ")", Due.insert(x, "0,0:0", bad), -3);
            Due.due("consumed", x.clearInput(), 0);
            Due.due("insertRule(" + bad + ") is checked before the text", Due.insert(x, "!", bad), -3);
            Due.due("consumed", x.clearInput(), 0);
        }
        Due.due("refused rules keep the tree", x.worstCost(), 2);
        Due.due("there are still 2", x.ruleCount(), 2);
    }
}
