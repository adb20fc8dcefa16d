/** The boundary cases of the array slots, and of promises 39 to 45. */
public final class ArraysEdgesTest extends Edges {
    private static final int[] NO_SLOTS = {MIN, -2, -1, 4, 5, MAX};

    public static void main(String[] args) throws Exception {
        runAll(ArraysEdgesTest.class);
    }

    /** Ints in slot 0 (10 to 15) and slot 1 (20 to 23), bytes in slot 2, nothing in slot 3. */
    private static DecisionTableCompiler rows() {
        DecisionTableCompiler x = fresh();
        x.allocate(0, INTS, 6);
        x.allocate(1, INTS, 4);
        x.allocate(2, BYTES, 5);
        for (int i = 0; i < 6; i++) {
            x.putElement(0, i, 10 + i);
        }
        for (int i = 0; i < 4; i++) {
            x.putElement(1, i, 20 + i);
        }
        return x;
    }

    private static void rowIs(DecisionTableCompiler x, int slot, int... elements) {
        for (int i = 0; i < elements.length; i++) {
            due("element(" + slot + ", " + i + ")", x.element(slot, i), elements[i]);
        }
        due("element(" + slot + ", " + elements.length + ")", x.element(slot, elements.length), NO_VALUE);
    }

    @Sentence(promise = 0, says = "There are four array slots, numbered 0 to 3.")
    private static void fourSlots() {
        DecisionTableCompiler x = fresh();
        for (int slot = 0; slot < 4; slot++) {
            due("allocate in " + slot, x.allocate(slot, LONGS, 1), 1);
            due("putElement in " + slot, x.putElement(slot, 0, 100 + slot), 1);
        }
        for (int slot = 0; slot < 4; slot++) {
            due("element of " + slot, x.element(slot, 0), 100 + slot);
        }
        due("one before the first", x.allocate(-1, LONGS, 1), BAD_ARGUMENT);
        due("one behind the last", x.allocate(4, LONGS, 1), BAD_ARGUMENT);
    }

    @Sentence(promise = 0, says = "with at most 700 elements.")
    private static void sevenHundredElements() {
        for (int type = 0; type < 4; type++) {
            DecisionTableCompiler x = fresh();
            due("allocate 700", x.allocate(0, type, 700), 700);
            due("the last", x.putElement(0, 699, 1), 1);
            due("the last", x.element(0, 699), 1);
            due("behind the last", x.putElement(0, 700, 1), INDEX_OUT_OF_RANGE);
            due("allocate 701", x.allocate(0, type, 701), BAD_ARGUMENT);
            due("the array stays", x.element(0, 699), 1);
        }
    }

    @Sentence(promise = 0, says = "All slots are initially empty.")
    private static void slotsAreEmptyAtFirst() {
        DecisionTableCompiler x = fresh();
        for (int slot = 0; slot < 4; slot++) {
            due("element", x.element(slot, 0), NO_VALUE);
            due("putElement", x.putElement(slot, 0, 0), EMPTY_SLOT);
            due("compareActions", x.compareActions(slot), EMPTY_SLOT);
            due("copyElements", x.copyElements(slot, 0, slot, 0, 0), EMPTY_SLOT);
            due("release", x.release(slot), 0);
        }
    }

    @Sentence(promise = 0, says = "An array of the storing methods takes the place of an earlier one.")
    private static void laterArraysReplaceEarlierOnes() {
        DecisionTableCompiler x = fresh();
        x.allocate(0, LONGS, 700);
        x.putElement(0, 3, Long.MAX_VALUE);
        due("storeActions over longs", x.storeActions(0), 4);
        rowIs(x, 0, -1, -1, -1, -1);
        due("they are bytes", x.compareActions(0), NONE);
        due("allocate over actions", x.allocate(0, BOOLEANS, 2), 2);
        rowIs(x, 0, 0, 0);
        due("allocate none over two", x.allocate(0, BYTES, 0), 0);
        rowIs(x, 0);
        due("the slot holds an array", x.release(0), 1);
    }

    @Sentence(promise = 39, says = "Stores a new array, filled with false or 0, in an array slot.")
    private static void newArraysAreClear() {
        for (int type = 0; type < 4; type++) {
            DecisionTableCompiler x = fresh();
            x.allocate(1, LONGS, 100);
            for (int i = 0; i < 100; i++) {
                x.putElement(1, i, -1);
            }
            due("allocate", x.allocate(1, type, 100), 100);
            for (int i = 0; i < 100; i++) {
                due("element " + i, x.element(1, i), 0);
            }
            x.putElement(1, 0, 1);
            x.release(1);
            x.allocate(1, type, 1);
            due("after a release", x.element(1, 0), 0);
        }
    }

    @Sentence(promise = 39, says = "the slot, 0 to 3")
    private static void allocateInEverySlot() {
        DecisionTableCompiler x = fresh();
        for (int slot = 0; slot < 4; slot++) {
            due("allocate(" + slot + ", 0, 5)", x.allocate(slot, BOOLEANS, 5), 5);
        }
        for (int slot : NO_SLOTS) {
            due("allocate(" + slot + ", 0, 5)", x.allocate(slot, BOOLEANS, 5), BAD_ARGUMENT);
        }
    }

    @Sentence(promise = 39, says = "the element type: 0 boolean, 1 byte, 2 int, 3 long")
    private static void allocateOfEveryType() {
        DecisionTableCompiler x = fresh();
        long value = 0x1_8000_0180L;
        long[] narrowed = {1, -128, Integer.MIN_VALUE + 0x180, value};
        for (int type = 0; type < 4; type++) {
            due("allocate(0, " + type + ", 1)", x.allocate(0, type, 1), 1);
            x.putElement(0, 0, value);
            due("the type", x.element(0, 0), narrowed[type]);
        }
        for (int type : numbers(MIN, -1, 4, MAX)) {
            due("allocate(0, " + type + ", 1)", x.allocate(0, type, 1), BAD_ARGUMENT);
        }
    }

    @Sentence(promise = 39, says = "Returns the size")
    private static void smallestAndLargestArray() {
        DecisionTableCompiler x = fresh();
        due("the smallest", x.allocate(0, BYTES, 0), 0);
        due("it is an array", x.putElement(0, 0, 0), INDEX_OUT_OF_RANGE);
        due("of one", x.allocate(0, BYTES, 1), 1);
        due("the largest", x.allocate(0, BYTES, 700), 700);
    }

    @Sentence(promise = 39, says = "BAD_ARGUMENT if the slot or the type is out of range or the size is above 700 (checked first)")
    private static void allocateRefused() {
        DecisionTableCompiler x = rows();
        for (int slot : NO_SLOTS) {
            for (int size : numbers(MIN, -1, 0, 701, MAX)) {
                due("slot " + slot + ", size " + size, x.allocate(slot, INTS, size), BAD_ARGUMENT);
            }
        }
        for (int type : numbers(MIN, -1, 4, MAX)) {
            for (int size : numbers(MIN, -1, 0, 701, MAX)) {
                due("type " + type + ", size " + size, x.allocate(0, type, size), BAD_ARGUMENT);
            }
        }
        for (int size : numbers(701, 702, MAX)) {
            due("size " + size, x.allocate(0, INTS, size), BAD_ARGUMENT);
        }
        rowIs(x, 0, 10, 11, 12, 13, 14, 15);
    }

    @Sentence(promise = 39, says = "NEGATIVE_SIZE.")
    private static void negativeSizes() {
        DecisionTableCompiler x = rows();
        for (int size : numbers(MIN, -700, -2, -1)) {
            due("over an array: " + size, x.allocate(0, LONGS, size), NEGATIVE_SIZE);
            due("in an empty slot: " + size, x.allocate(3, LONGS, size), NEGATIVE_SIZE);
        }
        rowIs(x, 0, 10, 11, 12, 13, 14, 15);
        due("the empty slot is empty", x.release(3), 0);
    }

    @Sentence(promise = 40, says = "Empties an array slot.")
    private static void releasedSlots() {
        DecisionTableCompiler x = rows();
        due("release(0)", x.release(0), 1);
        due("element(0, 0)", x.element(0, 0), NO_VALUE);
        due("putElement(0, 0, 1)", x.putElement(0, 0, 1), EMPTY_SLOT);
        due("the other slots stay", x.element(1, 3), 23);
    }

    @Sentence(promise = 40, says = "the slot, 0 to 3")
    private static void releaseOfEverySlot() {
        DecisionTableCompiler x = fresh();
        for (int slot = 0; slot < 4; slot++) {
            x.allocate(slot, LONGS, 700);
        }
        for (int slot = 0; slot < 4; slot++) {
            due("release(" + slot + ")", x.release(slot), 1);
            due("the next one stays", x.element((slot + 1) % 4, 699), slot == 3 ? NO_VALUE : 0);
        }
    }

    @Sentence(promise = 40, says = "Returns 1 if it held an array, 0 if it was empty")
    private static void releaseTwice() {
        DecisionTableCompiler x = fresh();
        for (int slot = 0; slot < 4; slot++) {
            due("at first", x.release(slot), 0);
            x.allocate(slot, slot, 0);
            due("an array of no elements", x.release(slot), 1);
            due("again", x.release(slot), 0);
            x.storeActions(slot);
            due("stored actions", x.release(slot), 1);
            due("again", x.release(slot), 0);
            x.allocate(slot, slot, -1);
            due("a refused array", x.release(slot), 0);
        }
    }

    @Sentence(promise = 40, says = "BAD_ARGUMENT if the slot is out of range.")
    private static void releaseOfNoSlot() {
        DecisionTableCompiler x = rows();
        for (int slot : NO_SLOTS) {
            due("release(" + slot + ")", x.release(slot), BAD_ARGUMENT);
        }
        due("the last slot", x.release(3), 0);
        due("the first slot", x.release(0), 1);
    }

    @Sentence(promise = 41, says = "The value is narrowed to the element type as by a Java cast")
    private static void narrowedValues() {
        DecisionTableCompiler x = fresh();
        x.allocate(0, BYTES, 1);
        long[][] bytes = {{127, 127}, {128, -128}, {-128, -128}, {-129, 127}, {255, -1}, {256, 0}, {1L << 40, 0},
            {Long.MAX_VALUE, -1}, {Long.MIN_VALUE, 0}};
        narrow(x, bytes);
        x.allocate(0, INTS, 1);
        long[][] ints = {{MAX, MAX}, {MAX + 1L, MIN}, {MIN, MIN}, {MIN - 1L, MAX}, {1L << 32, 0}, {(1L << 32) + 7, 7},
            {Long.MAX_VALUE, -1}, {Long.MIN_VALUE, 0}};
        narrow(x, ints);
        x.allocate(0, LONGS, 1);
        long[][] longs = {{Long.MAX_VALUE, Long.MAX_VALUE}, {Long.MIN_VALUE, Long.MIN_VALUE},
            {Long.MIN_VALUE + 1, Long.MIN_VALUE + 1}, {0, 0}};
        narrow(x, longs);
    }

    @Sentence(promise = 41, says = "a boolean element becomes true if the value is not 0.")
    private static void booleansByValue() {
        DecisionTableCompiler x = fresh();
        x.allocate(0, BOOLEANS, 1);
        long[][] booleans = {{1, 1}, {0, 0}, {2, 1}, {-1, 1}, {256, 1}, {1L << 32, 1}, {0, 0}, {Long.MIN_VALUE, 1},
            {Long.MAX_VALUE, 1}, {0, 0}};
        narrow(x, booleans);
    }

    private static void narrow(DecisionTableCompiler x, long[][] pairs) {
        for (long[] pair : pairs) {
            due("putElement of " + pair[0], x.putElement(0, 0, pair[0]), 1);
            due("element of " + pair[0], x.element(0, 0), pair[1]);
        }
    }

    @Sentence(promise = 41, says = "Returns 1")
    private static void firstAndLastElement() {
        DecisionTableCompiler x = fresh();
        x.allocate(0, INTS, 700);
        due("the first", x.putElement(0, 0, 3), 1);
        due("the last", x.putElement(0, 699, 4), 1);
        due("the first", x.element(0, 0), 3);
        due("the second", x.element(0, 1), 0);
        due("the last but one", x.element(0, 698), 0);
        due("the last", x.element(0, 699), 4);
    }

    @Sentence(promise = 41, says = "BAD_ARGUMENT if the slot is out of range (checked first)")
    private static void putInNoSlot() {
        DecisionTableCompiler x = rows();
        for (int slot : NO_SLOTS) {
            for (int index : numbers(MIN, -1, 0, 700, MAX)) {
                due("putElement(" + slot + ", " + index + ", 1)", x.putElement(slot, index, 1), BAD_ARGUMENT);
            }
        }
    }

    @Sentence(promise = 41, says = "EMPTY_SLOT (checked second)")
    private static void putInAnEmptySlot() {
        DecisionTableCompiler x = rows();
        for (int index : numbers(MIN, -1, 0, 700, MAX)) {
            due("putElement(3, " + index + ", 1)", x.putElement(3, index, 1), EMPTY_SLOT);
        }
        due("the slot stays empty", x.release(3), 0);
    }

    @Sentence(promise = 41, says = "INDEX_OUT_OF_RANGE.")
    private static void putAtNoIndex() {
        DecisionTableCompiler x = rows();
        for (int index : numbers(MIN, -1, 6, 7, 700, MAX)) {
            due("putElement(0, " + index + ", 1)", x.putElement(0, index, 1), INDEX_OUT_OF_RANGE);
        }
        rowIs(x, 0, 10, 11, 12, 13, 14, 15);
        x.allocate(3, BOOLEANS, 0);
        for (int index : numbers(-1, 0, 1)) {
            due("without elements", x.putElement(3, index, 1), INDEX_OUT_OF_RANGE);
        }
    }

    @Sentence(promise = 42, says = "a boolean element is returned as 1 or 0.")
    private static void booleansAreRead() {
        DecisionTableCompiler x = fresh();
        x.allocate(0, BOOLEANS, 3);
        x.putElement(0, 1, -9);
        x.putElement(0, 2, -9);
        x.putElement(0, 2, 0);
        rowIs(x, 0, 0, 1, 0);
    }

    @Sentence(promise = 42, says = "Returns the element")
    private static void lowestAndHighestElement() {
        DecisionTableCompiler x = fresh();
        x.allocate(0, LONGS, 2);
        x.putElement(0, 0, Long.MIN_VALUE);
        x.putElement(0, 1, Long.MAX_VALUE);
        due("the lowest", x.element(0, 0), Long.MIN_VALUE);
        due("the highest", x.element(0, 1), Long.MAX_VALUE);
    }

    @Sentence(promise = 42, says = "NO_VALUE if the slot is out of range or empty, or the index is out of range.")
    private static void noElement() {
        DecisionTableCompiler x = rows();
        for (int slot : NO_SLOTS) {
            due("element(" + slot + ", 0)", x.element(slot, 0), NO_VALUE);
        }
        for (int index : numbers(MIN, -1, 0, 1, MAX)) {
            due("an empty slot: element(3, " + index + ")", x.element(3, index), NO_VALUE);
        }
        for (int index : numbers(MIN, -1, 6, 7, 700, MAX)) {
            due("element(0, " + index + ")", x.element(0, index), NO_VALUE);
        }
        x.allocate(3, LONGS, 0);
        due("without elements", x.element(3, 0), NO_VALUE);
    }

    @Sentence(promise = 43, says = "Copies elements from one array to another one, or within one array, as System.arraycopy does.")
    private static void copiesThatOverlap() {
        DecisionTableCompiler up = rows();
        due("upwards", up.copyElements(0, 0, 0, 1, 5), 5);
        rowIs(up, 0, 10, 10, 11, 12, 13, 14);
        DecisionTableCompiler down = rows();
        due("downwards", down.copyElements(0, 1, 0, 0, 5), 5);
        rowIs(down, 0, 11, 12, 13, 14, 15, 15);
        DecisionTableCompiler same = rows();
        due("onto itself", same.copyElements(0, 0, 0, 0, 6), 6);
        rowIs(same, 0, 10, 11, 12, 13, 14, 15);
        DecisionTableCompiler other = rows();
        due("to another", other.copyElements(0, 2, 1, 1, 3), 3);
        rowIs(other, 1, 20, 12, 13, 14);
        rowIs(other, 0, 10, 11, 12, 13, 14, 15);
    }

    @Sentence(promise = 43, says = "Returns the count")
    private static void fewestAndMostCopied() {
        DecisionTableCompiler x = rows();
        due("none", x.copyElements(0, 0, 1, 0, 0), 0);
        due("none at both ends", x.copyElements(0, 6, 1, 4, 0), 0);
        rowIs(x, 1, 20, 21, 22, 23);
        due("all that the target holds", x.copyElements(0, 2, 1, 0, 4), 4);
        rowIs(x, 1, 12, 13, 14, 15);
        x.allocate(0, LONGS, 700);
        x.allocate(1, LONGS, 700);
        x.putElement(0, 699, 8);
        due("all of 700", x.copyElements(0, 0, 1, 0, 700), 700);
        due("the last", x.element(1, 699), 8);
        x.allocate(2, LONGS, 0);
        due("none of none", x.copyElements(2, 0, 2, 0, 0), 0);
    }

    @Sentence(promise = 43, says = "BAD_ARGUMENT if a slot is out of range (checked first)")
    private static void copyOfNoSlot() {
        DecisionTableCompiler x = rows();
        for (int slot : NO_SLOTS) {
            for (int other = 0; other < 4; other++) {
                due("from " + slot, x.copyElements(slot, 0, other, 0, 1), BAD_ARGUMENT);
                due("to " + slot, x.copyElements(other, 0, slot, 0, 1), BAD_ARGUMENT);
                due("from " + slot + " with a wrong count", x.copyElements(slot, -1, other, -1, -1), BAD_ARGUMENT);
            }
            due("from and to " + slot, x.copyElements(slot, 0, slot, 0, 0), BAD_ARGUMENT);
        }
    }

    @Sentence(promise = 43, says = "EMPTY_SLOT if either slot is empty (checked second)")
    private static void copyOfAnEmptySlot() {
        DecisionTableCompiler x = rows();
        for (int other = 0; other < 4; other++) {
            for (int count : numbers(MIN, -1, 0, 1, MAX)) {
                due("from it to " + other, x.copyElements(3, 0, other, 0, count), EMPTY_SLOT);
                due("to it from " + other, x.copyElements(other, 0, 3, 0, count), EMPTY_SLOT);
                due("at a wrong index", x.copyElements(other, -1, 3, -1, count), EMPTY_SLOT);
            }
        }
        due("it stays empty", x.release(3), 0);
    }

    @Sentence(promise = 43, says = "WRONG_TYPE if the element types differ (checked third)")
    private static void copyOfAnotherType() {
        for (int from = 0; from < 4; from++) {
            for (int to = 0; to < 4; to++) {
                DecisionTableCompiler x = fresh();
                x.allocate(0, from, 3);
                x.allocate(1, to, 3);
                x.putElement(0, 0, 1);
                due(from + " to " + to, x.copyElements(0, 0, 1, 0, 3), from == to ? 3 : WRONG_TYPE);
                due("the target", x.element(1, 0), from == to ? 1 : 0);
                due("none of them", x.copyElements(0, 0, 1, 0, 0), from == to ? 0 : WRONG_TYPE);
                due("too many", x.copyElements(0, 0, 1, 0, 4), from == to ? INDEX_OUT_OF_RANGE : WRONG_TYPE);
                due("a wrong index", x.copyElements(0, -1, 1, 0, 1), from == to ? INDEX_OUT_OF_RANGE : WRONG_TYPE);
            }
        }
    }

    @Sentence(promise = 43, says = "INDEX_OUT_OF_RANGE if an index or the count is negative, or an end is beyond the size of either array.")
    private static void copyOutOfRange() {
        DecisionTableCompiler x = rows();
        int[][] wrong = {{-1, 0, 1}, {0, -1, 1}, {0, 0, -1}, {MIN, 0, 0}, {0, MIN, 0}, {0, 0, MIN}, {-1, 0, 0},
            {0, -1, 0}, {7, 0, 0}, {0, 5, 0}, {6, 0, 1}, {0, 4, 1}, {3, 0, 4}, {0, 1, 4}, {0, 0, 5}, {2, 0, 5},
            {0, 0, 7}, {0, 0, MAX}, {1, 0, MAX}, {0, 1, MAX}, {MAX, 0, 0}, {0, MAX, 0}, {MAX, 0, 1}, {0, MAX, 1},
            {MAX, MAX, MAX}, {MIN, MIN, MIN}, {MAX, 0, MIN}, {-1, -1, 2}};
        for (int[] one : wrong) {
            String call = "copyElements(0, " + one[0] + ", 1, " + one[1] + ", " + one[2] + ")";
            due(call, x.copyElements(0, one[0], 1, one[1], one[2]), INDEX_OUT_OF_RANGE);
        }
        rowIs(x, 1, 20, 21, 22, 23);
        due("within: one too many", x.copyElements(0, 0, 0, 1, 6), INDEX_OUT_OF_RANGE);
        due("within: one too many", x.copyElements(0, 1, 0, 0, 6), INDEX_OUT_OF_RANGE);
        rowIs(x, 0, 10, 11, 12, 13, 14, 15);
    }

    @Sentence(promise = 44, says = "action, or -1 if it has none.")
    private static void storedActions() {
        DecisionTableCompiler x = table(2, 3, 0, 0, "0,0:0", "1,2:9");
        due("storeActions(0)", x.storeActions(0), 6);
        rowIs(x, 0, 0, -1, -1, -1, -1, 9);
        x.setDefault(0);
        rowIs(x, 0, 0, -1, -1, -1, -1, 9);
        due("storeActions(0)", x.storeActions(0), 6);
        rowIs(x, 0, 0, 0, 0, 0, 0, 9);
    }

    @Sentence(promise = 44, says = "Stores an array of bytes with the actions of all cases in an array slot")
    private static void storedActionsAreBytes() {
        DecisionTableCompiler x = fresh();
        for (int type = 0; type < 4; type++) {
            x.allocate(type, type, 700);
            due("storeActions(" + type + ")", x.storeActions(type), 4);
            due("putElement of 384", x.putElement(type, 3, 384), 1);
            due("it is a byte", x.element(type, 3), -128);
            due("no more elements", x.element(type, 4), NO_VALUE);
        }
    }

    @Sentence(promise = 44, says = "Returns the number of cases")
    private static void fewestAndMostActions() {
        DecisionTableCompiler x = table(2, 0, 0, 0);
        due("the fewest", x.storeActions(3), 2);
        due("behind the last", x.element(3, 2), NO_VALUE);
        x.reset(5, 5, 5, 5);
        Due.add(x, "4,4,4,4:7");
        due("the most", x.storeActions(3), 625);
        due("the first", x.element(3, 0), -1);
        due("the last", x.element(3, 624), 7);
        due("behind the last", x.element(3, 625), NO_VALUE);
    }

    @Sentence(promise = 44, says = "BAD_ARGUMENT if the slot is out of range.")
    private static void storeInNoSlot() {
        DecisionTableCompiler x = rows();
        for (int slot : NO_SLOTS) {
            due("storeActions(" + slot + ")", x.storeActions(slot), BAD_ARGUMENT);
        }
        rowIs(x, 0, 10, 11, 12, 13, 14, 15);
        due("the last slot is empty", x.release(3), 0);
    }

    private static DecisionTableCompiler stored() {
        DecisionTableCompiler x = table(2, 3, 0, 0, "0,0:0", "1,2:9");
        x.storeActions(1);
        return x;
    }

    @Sentence(promise = 45, says = "Returns the lowest case whose element differs from the element that storeActions would store")
    private static void lowestDifference() {
        DecisionTableCompiler x = stored();
        for (int number = 5; number >= 0; number--) {
            x.putElement(1, number, 100);
            due("compareActions(1)", x.compareActions(1), number);
        }
        DecisionTableCompiler y = stored();
        y.putElement(1, 1, 0);
        due("action 0 is not none", y.compareActions(1), 1);
        y.storeActions(1);
        y.putElement(1, 0, -1);
        due("none is not action 0", y.compareActions(1), 0);
        y.putElement(1, 0, 256);
        due("256 is 0 as a byte", y.compareActions(1), NONE);
        y.putElement(1, 1, -6);
        due("none is stored as -1 alone", y.compareActions(1), 1);
    }

    @Sentence(promise = 45, says = "if there is none, NONE")
    private static void noDifference() {
        DecisionTableCompiler x = stored();
        due("as stored", x.compareActions(1), NONE);
        x.allocate(2, BYTES, 700);
        x.copyElements(1, 0, 2, 0, 6);
        x.putElement(2, 6, 99);
        due("elements behind the cases", x.compareActions(2), NONE);
        DecisionTableCompiler y = table(5, 5, 5, 5);
        y.storeActions(0);
        due("of the most cases", y.compareActions(0), NONE);
        y.putElement(0, 624, 0);
        due("the last of them", y.compareActions(0), 624);
    }

    @Sentence(promise = 45, says = "BAD_ARGUMENT if the slot is out of range (checked first)")
    private static void compareNoSlot() {
        DecisionTableCompiler x = stored();
        for (int slot : NO_SLOTS) {
            due("compareActions(" + slot + ")", x.compareActions(slot), BAD_ARGUMENT);
        }
    }

    @Sentence(promise = 45, says = "EMPTY_SLOT (checked second)")
    private static void compareAnEmptySlot() {
        DecisionTableCompiler x = stored();
        due("never filled", x.compareActions(0), EMPTY_SLOT);
        x.release(1);
        due("released", x.compareActions(1), EMPTY_SLOT);
        x.allocate(2, INTS, 6);
        x.release(2);
        due("released, of another type", x.compareActions(2), EMPTY_SLOT);
    }

    @Sentence(promise = 45, says = "WRONG_TYPE if the array does not hold bytes (checked third)")
    private static void compareAnotherType() {
        for (int type : numbers(BOOLEANS, INTS, LONGS)) {
            DecisionTableCompiler x = stored();
            for (int size : numbers(0, 5, 6, 700)) {
                x.allocate(1, type, size);
                due("type " + type + " with " + size, x.compareActions(1), WRONG_TYPE);
            }
        }
    }

    @Sentence(promise = 45, says = "INDEX_OUT_OF_RANGE if the array has no element for a case and no lower case differs.")
    private static void compareAShortArray() {
        DecisionTableCompiler x = stored();
        for (int size = 0; size < 6; size++) {
            x.allocate(2, BYTES, size);
            x.copyElements(1, 0, 2, 0, size);
            due("as stored, of " + size, x.compareActions(2), INDEX_OUT_OF_RANGE);
            if (size > 0) {
                x.putElement(2, size - 1, 77);
                due("the last differs, of " + size, x.compareActions(2), size - 1);
            }
        }
        x.storeActions(3);
        x.reset(2, 4, 0, 0);
        due("a table that has grown", x.compareActions(3), 0);
        x.storeActions(3);
        x.reset(3, 4, 0, 0);
        due("a table that has grown, without a difference", x.compareActions(3), INDEX_OUT_OF_RANGE);
    }
}
