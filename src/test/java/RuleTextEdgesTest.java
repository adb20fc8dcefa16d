/** The boundary cases of the input buffer and the rule text, and of promises 9 to 12. */
public final class RuleTextEdgesTest extends Edges {
    public static void main(String[] args) throws Exception {
        runAll(RuleTextEdgesTest.class);
    }

    /** A text is faulty at the same place for both methods that read it. */
    private static void faultAt(int position, String text, int... sizes) {
        DecisionTableCompiler x = fresh();
        x.reset(sizes[0], sizes[1], sizes[2], sizes[3]);
        due("addRule of '" + text + "'", Due.add(x, text), MALFORMED - position);
        due("insertRule of '" + text + "'", Due.insert(x, text, 0), MALFORMED - position);
        due("ruleCount()", x.ruleCount(), 0);
        due("clearInput()", x.clearInput(), 0);
    }

    private static void faultAt(int position, String text) {
        faultAt(position, text, 2, 3, 0, 0);
    }

    @Sentence(promise = 0, says = "The input buffer holds up to 40 bytes, each 0 to 127.")
    private static void bufferHoldsForty() {
        DecisionTableCompiler x = fresh();
        for (int length = 1; length <= 40; length++) {
            due("append", x.append(length % 2 == 0 ? 0 : 127, 1), length);
        }
        due("a byte too many", x.append(0, 1), FULL);
        due("too large a byte", x.append(128, 1), BAD_ARGUMENT);
        due("too small a byte", x.append(-1, 1), BAD_ARGUMENT);
        due("clearInput()", x.clearInput(), 40);
    }

    @Sentence(promise = 0, says = "The content is consumed by addRule and insertRule, even if they return an error code.")
    private static void contentIsConsumed() {
        DecisionTableCompiler x = fresh();
        due("addRule of a rule", Due.add(x, "0,0:1"), 0);
        due("nothing is left", x.clearInput(), 0);
        due("insertRule of a rule", Due.insert(x, "0,0:1", 0), 2);
        due("nothing is left", x.clearInput(), 0);
        due("addRule of a fault", Due.add(x, "!"), MALFORMED);
        due("nothing is left", x.clearInput(), 0);
        due("insertRule of a fault", Due.insert(x, "!", 0), MALFORMED);
        due("nothing is left", x.clearInput(), 0);
        due("insertRule at no place", Due.insert(x, "0,0:1", 9), NO_SUCH_RULE);
        due("nothing is left", x.clearInput(), 0);
        x.append('0', 40);
        due("addRule of a full buffer", x.addRule(), MALFORMED - 40);
        due("the buffer has all its room again", x.append('0', 40), 40);
    }

    @Sentence(promise = 0, says = "There is one set for each condition")
    private static void oneSetForEachCondition() {
        due("one of one", Due.add(table(2, 0, 0, 0), "0:0"), 0);
        due("four of four", Due.add(table(2, 2, 2, 2), "0,0,0,0:0"), 0);
        faultAt(1, "0,0:0", 2, 0, 0, 0);
        faultAt(1, "0:0", 2, 2, 0, 0);
        faultAt(3, "0,0,0:0", 2, 2, 0, 0);
        faultAt(3, "0,0:0", 2, 2, 2, 0);
        faultAt(5, "0,0,0,0:0", 2, 2, 2, 0);
        faultAt(5, "0,0,0:0", 2, 2, 2, 2);
        faultAt(7, "0,0,0,0,0:0", 2, 2, 2, 2);
    }

    @Sentence(promise = 0, says = "\"*\" is the set of all values, and repeated digits are allowed.")
    private static void starsAndRepeatedDigits() {
        DecisionTableCompiler x = table(2, 3, 4, 5, "*,*,*,*:0", "00,111,2222,33333:1", "0101,210210,3,4:2");
        for (int c = 0; c < 4; c++) {
            due("a star for " + c, x.ruleSet(0, c), (1 << c + 2) - 1);
            due("one digit again and again for " + c, x.ruleSet(1, c), 1 << c);
        }
        due("two digits twice", x.ruleSet(2, 0), 3);
        due("three digits twice, downwards", x.ruleSet(2, 1), 7);
    }

    @Sentence(promise = 0, says = "There are no spaces.")
    private static void noSpaces() {
        faultAt(0, " 0,0:1");
        faultAt(1, "0 ,0:1");
        faultAt(2, "0, 0:1");
        faultAt(3, "0,0 :1");
        faultAt(4, "0,0: 1");
        faultAt(5, "0,0:1 ");
        faultAt(0, " ");
        faultAt(5, "0,0:1\n");
        faultAt(5, "0,0:1\0");
    }

    @Sentence(promise = 0, says = "a digit behind a star")
    private static void digitBehindAStar() {
        faultAt(1, "*0,0:1");
        faultAt(1, "**,0:1");
        faultAt(3, "0,*2:1");
        faultAt(1, "0*,0:1");
        faultAt(3, "0,0*:1");
    }

    @Sentence(promise = 0, says = "a second digit of an action")
    private static void secondDigitOfAnAction() {
        faultAt(5, "0,0:10");
        faultAt(5, "0,0:00");
        faultAt(5, "*,*:99");
    }

    @Sentence(promise = 0, says = "a colon that comes too early")
    private static void colonTooEarly() {
        faultAt(0, ":0");
        faultAt(1, "0:0");
        faultAt(1, "*:0");
        faultAt(2, "0,:0");
        faultAt(0, ":", 2, 0, 0, 0);
    }

    @Sentence(promise = 0, says = "a comma too many are errors where they stand.")
    private static void commaTooMany() {
        faultAt(0, ",0,0:1");
        faultAt(2, "0,,0:1");
        faultAt(3, "0,0,:1");
        faultAt(3, "0,*,0:1");
        faultAt(4, "0,0:,1");
        faultAt(5, "0,0:1,");
    }

    @Sentence(promise = 0, says = "The buffer is consumed also if there is no such rule or a text has a fault.")
    private static void consumedWithoutARule() {
        for (int rule : numbers(MIN, -1, 1, MAX)) {
            DecisionTableCompiler x = fresh();
            due("insertRule(" + rule + ")", Due.insert(x, "0,0:1", rule), NO_SUCH_RULE);
            due("clearInput()", x.clearInput(), 0);
        }
        DecisionTableCompiler x = fresh();
        due("a fault", Due.add(x, "0,0:x"), MALFORMED - 4);
        due("the text behind it is no part of the next", Due.add(x, "0,0:1"), 0);
    }

    @Sentence(promise = 9, says = "Appends a byte to the input buffer one or more times.")
    private static void appendsThatOften() {
        DecisionTableCompiler x = fresh();
        x.reset(2, 0, 0, 0);
        due("one", x.append('0', 1), 1);
        due("37 more", x.append('1', 37), 38);
        due("a colon", x.append(':', 1), 39);
        due("an action", x.append('7', 1), 40);
        due("addRule()", x.addRule(), 0);
        due("both digits are there", x.ruleSet(0, 0), 3);
    }

    @Sentence(promise = 9, says = "the byte, 0 to 127")
    private static void everyByte() {
        DecisionTableCompiler x = fresh();
        for (int value = 0; value <= 127; value++) {
            due("append(" + value + ", 1)", x.append(value, 1), 1);
            due("clearInput()", x.clearInput(), 1);
        }
        for (int value : numbers(MIN, -128, -1, 128, 255, 256 + '0', MAX)) {
            due("append(" + value + ", 1)", x.append(value, 1), BAD_ARGUMENT);
        }
        due("nothing was appended", x.clearInput(), 0);
    }

    @Sentence(promise = 9, says = "how often it is appended, 1 to 40")
    private static void everyCount() {
        DecisionTableCompiler x = fresh();
        for (int count = 1; count <= 40; count++) {
            due("append(48, " + count + ")", x.append(48, count), count);
            due("clearInput()", x.clearInput(), count);
        }
        for (int count : numbers(MIN, -1, 0, 41, MAX)) {
            due("append(48, " + count + ")", x.append(48, count), BAD_ARGUMENT);
        }
        due("nothing was appended", x.clearInput(), 0);
    }

    @Sentence(promise = 9, says = "BAD_ARGUMENT if an argument is out of range (checked first)")
    private static void appendArgumentsFirst() {
        DecisionTableCompiler x = fresh();
        x.append('0', 40);
        for (int bad : numbers(MIN, -1, 128, MAX)) {
            due("byte " + bad + " for a full buffer", x.append(bad, 1), BAD_ARGUMENT);
            due("byte " + bad + ", too often for the buffer", x.append(bad, 40), BAD_ARGUMENT);
        }
        for (int bad : numbers(MIN, -1, 0, 41, MAX)) {
            due(bad + " times for a full buffer", x.append('0', bad), BAD_ARGUMENT);
        }
        due("the buffer is still full", x.clearInput(), 40);
    }

    @Sentence(promise = 9, says = "FULL if the buffer would hold more than 40 bytes, in which case nothing is appended.")
    private static void fullBuffer() {
        DecisionTableCompiler x = fresh();
        for (int length = 1; length <= 40; length++) {
            x.append('0', length);
            due("one too many at " + length, x.append('1', 41 - length), FULL);
            due("forty at " + length, x.append('1', 40), FULL);
            due("nothing was appended at " + length, x.clearInput(), length);
        }
        x.append('0', 39);
        due("two at 39", x.append('1', 2), FULL);
        due("one at 39", x.append('1', 1), 40);
        due("one at 40", x.append('1', 1), FULL);
    }

    @Sentence(promise = 9, says = "Returns the number of bytes in the input buffer")
    private static void appendAnswersTheLength() {
        DecisionTableCompiler x = fresh();
        due("the first", x.append(0, 1), 1);
        due("up to the last but one", x.append(0, 38), 39);
        due("the last", x.append(0, 1), 40);
    }

    @Sentence(promise = 10, says = "Empties the input buffer.")
    private static void clearInputEmpties() {
        DecisionTableCompiler x = fresh();
        x.append('!', 40);
        due("clearInput()", x.clearInput(), 40);
        due("all the room is back", x.append('0', 40), 40);
        x.clearInput();
        due("an empty text", x.addRule(), MALFORMED);
        due("a rule", Due.add(x, "1,1:1"), 0);
        due("its set", x.ruleSet(0, 0), 2);
    }

    @Sentence(promise = 10, says = "Returns the number of bytes it held.")
    private static void clearInputAnswersTheLength() {
        DecisionTableCompiler x = fresh();
        due("of an empty one", x.clearInput(), 0);
        x.append(0, 1);
        due("of one byte", x.clearInput(), 1);
        due("again", x.clearInput(), 0);
        x.append(127, 40);
        due("of a full one", x.clearInput(), 40);
    }

    @Sentence(promise = 11, says = "Appends the rule in the input buffer to the table.")
    private static void addRuleAppends() {
        DecisionTableCompiler x = fresh();
        due("the first", Due.add(x, "0,1:0"), 0);
        due("the second", Due.add(x, "1,0:9"), 1);
        due("the first is as before", x.ruleSet(0, 0), 1);
        due("the second is behind it", x.ruleSet(1, 0), 2);
        due("the lowest action", x.ruleAction(0), 0);
        due("the highest action", x.ruleAction(1), 9);
    }

    @Sentence(promise = 11, says = "Discards the tree.")
    private static void addRuleDiscards() {
        DecisionTableCompiler x = fresh();
        x.compile();
        due("a fault", Due.add(x, "0,0:"), MALFORMED - 4);
        due("it keeps the tree", x.worstCost(), 0);
        due("a rule", Due.add(x, "0,0:1"), 0);
        due("it discards the tree", x.worstCost(), NOT_COMPILED);
    }

    @Sentence(promise = 11, says = "Returns the number of the rule")
    private static void addRuleAnswersTheNumber() {
        DecisionTableCompiler x = fresh();
        for (int rule = 0; rule < 12; rule++) {
            due("addRule()", Due.add(x, "*,*:0"), rule);
        }
        x.removeRule(0);
        due("addRule() behind removeRule", Due.add(x, "*,*:0"), 11);
    }

    @Sentence(promise = 11, says = "FULL if there are 12 rules (checked first)")
    private static void addRuleToAFullTable() {
        DecisionTableCompiler x = withRules(11);
        due("there is room for one", Due.add(x, "1,2:7"), 11);
        x.compile();
        due("for no more", Due.add(x, "0,0:1"), FULL);
        due("whatever the text is", Due.add(x, "!"), FULL);
        due("or that it ends too early", Due.add(x, "0,"), FULL);
        due("or that it is empty", x.addRule(), FULL);
        due("the buffer is consumed", x.clearInput(), 0);
        due("there are still 12", x.ruleCount(), 12);
        due("the last is as before", x.ruleAction(11), 7);
        due("the tree stays", x.node(0, 3), 0);
    }

    @Sentence(promise = 11, says = "-1000 minus the position if the text is malformed.")
    private static void addRuleLowestAndHighestPosition() {
        DecisionTableCompiler x = fresh();
        due("at the first byte", Due.add(x, "x"), -1000);
        x.append('0', 39);
        x.append('x', 1);
        due("at the last byte of a full buffer", x.addRule(), -1039);
        x.append('0', 40);
        due("behind a full buffer", x.addRule(), -1040);
        x.append('x', 40);
        due("a full buffer of faults", x.addRule(), -1000);
    }

    @Sentence(promise = 11, says = "is that of the first byte that no rule text for this table can have there")
    private static void firstFaultCounts() {
        faultAt(0, "xx,y:z");
        faultAt(2, "0,3:x9");
        faultAt(3, "0,0;1 ");
        faultAt(4, "0,0:/1");
        faultAt(4, "0,0::1");
        faultAt(4, "0,0:*");
        faultAt(5, "0,0:1\u007f");
        faultAt(0, "/,0:1");
        faultAt(0, "\0");
        faultAt(0, "\u007f");
    }

    @Sentence(promise = 11, says = "or the length of the text if it ends too early")
    private static void textsThatEndTooEarly() {
        String whole = "01,012:9";
        for (int length = 0; length < whole.length(); length++) {
            faultAt(length, whole.substring(0, length));
        }
        due("the whole text", Due.add(table(2, 3, 0, 0), whole), 0);
        faultAt(1, "*");
        faultAt(3, "*,*");
        faultAt(7, "0,0,0,0", 2, 2, 2, 2);
        faultAt(8, "0,0,0,0:", 2, 2, 2, 2);
        DecisionTableCompiler x = fresh();
        due("an empty text", x.addRule(), MALFORMED);
        x.append('0', 36);
        due("all but the action and one byte", Due.add(x, ",*:"), MALFORMED - 39);
        x.append('0', 37);
        due("a full buffer with all but the action", Due.add(x, ",*:"), MALFORMED - 40);
    }

    @Sentence(promise = 11, says = "a digit of a set must be a value of its condition.")
    private static void digitsAreValues() {
        for (int size = 2; size <= 5; size++) {
            for (char digit = '0'; digit <= '9'; digit++) {
                DecisionTableCompiler x = fresh();
                x.reset(size, 0, 0, 0);
                due(digit + " of " + size, Due.add(x, digit + ":0"), digit < '0' + size ? 0 : MALFORMED);
            }
        }
        faultAt(0, "2,4:0", 2, 5, 0, 0);
        faultAt(2, "4,2:0", 5, 2, 0, 0);
        faultAt(4, "1,1,2,1:0", 2, 2, 2, 2);
        faultAt(7, "1,1,1,05:0", 2, 2, 2, 5);
        due("the last value of each", Due.add(table(2, 3, 4, 5), "1,2,3,4:0"), 0);
    }

    @Sentence(promise = 12, says = "The rules from there on are renumbered.")
    private static void insertRuleRenumbers() {
        for (int at = 0; at <= 11; at++) {
            DecisionTableCompiler x = withRules(11);
            due("insertRule(" + at + ")", Due.insert(x, "*,*:9", at), 12);
            for (int rule = 0; rule < 12; rule++) {
                int before = rule < at ? rule : rule - 1;
                due("action of " + rule, x.ruleAction(rule), rule == at ? 9 : before % 10);
                due("set of " + rule, x.ruleSet(rule, 1), rule == at ? 7 : 1 << before % 3);
            }
        }
    }

    @Sentence(promise = 12, says = "Discards the tree.")
    private static void insertRuleDiscards() {
        DecisionTableCompiler x = fresh();
        x.compile();
        due("a fault", Due.insert(x, "0,0:", 0), MALFORMED - 4);
        due("no such place", Due.insert(x, "0,0:1", 1), NO_SUCH_RULE);
        due("they keep the tree", x.worstCost(), 0);
        due("a rule", Due.insert(x, "0,0:1", 0), 1);
        due("it discards the tree", x.worstCost(), NOT_COMPILED);
    }

    @Sentence(promise = 12, says = "the number that the new rule gets, 0 to the number of rules")
    private static void insertRuleAtTheEnds() {
        DecisionTableCompiler x = fresh();
        due("in an empty table", Due.insert(x, "0,0:1", 0), 1);
        due("behind the only rule", Due.insert(x, "0,0:2", 1), 2);
        due("before the first", Due.insert(x, "0,0:3", 0), 3);
        due("the first", x.ruleAction(0), 3);
        due("the second", x.ruleAction(1), 1);
        due("the last", x.ruleAction(2), 2);
    }

    @Sentence(promise = 12, says = "Returns the number of rules")
    private static void insertRuleAnswersTheCount() {
        DecisionTableCompiler x = fresh();
        for (int count = 1; count <= 12; count++) {
            due("insertRule(0)", Due.insert(x, "*,*:0", 0), count);
        }
    }

    @Sentence(promise = 12, says = "NO_SUCH_RULE if the number is out of range (checked first)")
    private static void insertRuleAtNoPlace() {
        DecisionTableCompiler x = withRules(2);
        for (int rule : numbers(MIN, -1, 3, 12, MAX)) {
            due("insertRule(" + rule + ")", Due.insert(x, "0,0:1", rule), NO_SUCH_RULE);
            due("before the text", Due.insert(x, "!", rule), NO_SUCH_RULE);
            due("before the empty text", x.insertRule(rule), NO_SUCH_RULE);
        }
        due("ruleCount()", x.ruleCount(), 2);
        DecisionTableCompiler full = withRules(12);
        for (int rule : numbers(MIN, -1, 13, MAX)) {
            due("before full", Due.insert(full, "0,0:1", rule), NO_SUCH_RULE);
        }
        due("fresh: insertRule(1)", Due.insert(fresh(), "0,0:1", 1), NO_SUCH_RULE);
    }

    @Sentence(promise = 12, says = "FULL if there are 12 rules (checked second)")
    private static void insertRuleInAFullTable() {
        DecisionTableCompiler x = withRules(12);
        int nodes = x.compile();
        for (int rule : numbers(0, 1, 11, 12)) {
            due("insertRule(" + rule + ")", Due.insert(x, "0,0:1", rule), FULL);
            due("before the text", Due.insert(x, "!", rule), FULL);
            due("before the empty text", x.insertRule(rule), FULL);
        }
        due("ruleCount()", x.ruleCount(), 12);
        due("the tree stays", x.node(0, 2), nodes);
        x.removeRule(5);
        due("there is room again", Due.insert(x, "0,0:1", 11), 12);
    }

    @Sentence(promise = 12, says = "-1000 minus the position if the text is malformed, as for addRule.")
    private static void insertRuleLowestAndHighestPosition() {
        DecisionTableCompiler x = withRules(1);
        for (int rule = 0; rule <= 1; rule++) {
            due("an empty text", x.insertRule(rule), -1000);
            due("at the first byte", Due.insert(x, "x", rule), -1000);
            x.append('0', 39);
            x.append('x', 1);
            due("at the last byte of a full buffer", x.insertRule(rule), -1039);
            x.append('0', 40);
            due("behind a full buffer", x.insertRule(rule), -1040);
        }
        due("ruleCount()", x.ruleCount(), 1);
    }
}
