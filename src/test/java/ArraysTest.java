/** Promises 39 to 45: the array slots and the stored actions. */
public final class ArraysTest {
    private static final int MIN = Integer.MIN_VALUE;
    private static final int MAX = Integer.MAX_VALUE;
    private static final long NO_VALUE = DecisionTableCompiler.NO_VALUE;
    private static final int[] NO_SLOTS = {MIN, -1, 4, MAX};

    public static void main(String[] args) {
        allocate();
        allocateAnew();
        release();
        putElement();
        narrowing();
        element();
        copyElements();
        copyOverlapping();
        copyFaults();
        copyRanges();
        storeActions();
        compareActions();
        Due.close();
    }

    private static void allocate() {
        DecisionTableCompiler x = new DecisionTableCompiler();
        for (int bad : NO_SLOTS) {
            Due.due("allocate in slot " + bad, x.allocate(bad, 0, 1), -1);
            Due.due("allocate of type " + bad, x.allocate(0, bad, 1), -1);
            Due.due("allocate: the slot is checked before the sign", x.allocate(bad, 0, -1), -1);
            Due.due("allocate: the type is checked before the sign", x.allocate(0, bad, -1), -1);
        }
        Due.due("allocate 701", x.allocate(0, 0, 701), -1);
        Due.due("allocate the highest size", x.allocate(0, 0, MAX), -1);
        Due.due("allocate -1", x.allocate(0, 0, -1), -14);
        Due.due("allocate the lowest size", x.allocate(0, 0, MIN), -14);
        Due.due("nothing was allocated", x.release(0), 0);
        for (int type = 0; type < 4; type++) {
            Due.due("allocate 700", x.allocate(type, type, 700), 700);
            Due.due("filled with 0", x.element(type, 0), 0);
            Due.due("filled with 0", x.element(type, 699), 0);
            Due.due("no more elements", x.element(type, 700), NO_VALUE);
        }
        Due.due("allocate 0", x.allocate(1, 2, 0), 0);
        Due.due("it has no element", x.element(1, 0), NO_VALUE);
        Due.due("but it is an array", x.release(1), 1);
    }

    private static void allocateAnew() {
        DecisionTableCompiler x = new DecisionTableCompiler();
        x.allocate(3, 3, 10);
        x.putElement(3, 9, 55);
        Due.due("a refused array", x.allocate(3, 0, -5), -14);
        Due.due("a refused array", x.allocate(3, 4, 5), -1);
        Due.due("keeps the one before", x.element(3, 9), 55);
        Due.due("a smaller one", x.allocate(3, 2, 5), 5);
        Due.due("is smaller", x.element(3, 9), NO_VALUE);
        Due.due("a greater one", x.allocate(3, 2, 20), 20);
        Due.due("is filled with 0", x.element(3, 9), 0);
        x.putElement(3, 1, 5);
        x.release(3);
        x.allocate(3, 2, 20);
        Due.due("is filled with 0 after a release too", x.element(3, 1), 0);
    }

    private static void release() {
        DecisionTableCompiler x = new DecisionTableCompiler();
        x.allocate(2, 1, 3);
        Due.due("release", x.release(2), 1);
        Due.due("release again", x.release(2), 0);
        Due.due("the slot is empty", x.putElement(2, 0, 0), -11);
        for (int bad : NO_SLOTS) {
            Due.due("release(" + bad + ")", x.release(bad), -1);
        }
    }

    private static void putElement() {
        DecisionTableCompiler x = new DecisionTableCompiler();
        x.allocate(0, 3, 3);
        Due.due("putElement", x.putElement(0, 2, NO_VALUE + 1), 1);
        Due.due("it is there", x.element(0, 2), NO_VALUE + 1);
        Due.due("its neighbour is not", x.element(0, 1), 0);
        for (int bad : NO_SLOTS) {
            Due.due("putElement in slot " + bad, x.putElement(bad, 0, 1), -1);
            Due.due("putElement: the slot is checked first", x.putElement(bad, -1, 1), -1);
        }
        Due.due("putElement in an empty slot", x.putElement(1, 0, 1), -11);
        Due.due("putElement: empty is checked second", x.putElement(1, -1, 1), -11);
        for (int bad : new int[] {MIN, -1, 3, MAX}) {
            Due.due("putElement at " + bad, x.putElement(0, bad, 1), -13);
        }
        x.allocate(0, 3, 0);
        Due.due("putElement in an array without elements", x.putElement(0, 0, 1), -13);
    }

    private static void narrowing() {
        DecisionTableCompiler x = new DecisionTableCompiler();
        for (int type = 0; type < 4; type++) {
            x.allocate(type, type, 1);
        }
        long[] values = {0, 1, -1, 2, 127, 128, -128, -129, 255, 256, 1L << 31, -(1L << 31) - 1, 1L << 32,
            (1L << 40) + 5, Long.MAX_VALUE, Long.MIN_VALUE, 3000000000L};
        for (long value : values) {
            for (int type = 0; type < 4; type++) {
                Due.due("putElement of " + value, x.putElement(type, 0, value), 1);
            }
            Due.due(value + " as a boolean", x.element(0, 0), value != 0 ? 1 : 0);
            Due.due(value + " as a byte", x.element(1, 0), (byte) value);
            Due.due(value + " as an int", x.element(2, 0), (int) value);
            Due.due(value + " as a long", x.element(3, 0), value);
        }
    }

    private static void element() {
        DecisionTableCompiler x = new DecisionTableCompiler();
        x.allocate(0, 2, 4);
        x.putElement(0, 3, -8);
        Due.due("element", x.element(0, 3), -8);
        for (int bad : NO_SLOTS) {
            Due.due("element of slot " + bad, x.element(bad, 0), NO_VALUE);
            Due.due("element at " + bad, x.element(0, bad), NO_VALUE);
        }
        Due.due("element of an empty slot", x.element(1, 0), NO_VALUE);
    }

    private static DecisionTableCompiler twoRows() {
        DecisionTableCompiler x = new DecisionTableCompiler();
        x.allocate(0, 2, 6);
        x.allocate(1, 2, 4);
        for (int i = 0; i < 6; i++) {
            x.putElement(0, i, 10 + i);
        }
        return x;
    }

    private static void rowIs(DecisionTableCompiler x, int slot, int... due) {
        for (int i = 0; i < due.length; i++) {
            Due.due("element(" + slot + ", " + i + ")", x.element(slot, i), due[i]);
        }
    }

    private static void copyElements() {
        DecisionTableCompiler x = twoRows();
        Due.due("copy 2", x.copyElements(0, 3, 1, 1, 2), 2);
        rowIs(x, 1, 0, 13, 14, 0);
        rowIs(x, 0, 10, 11, 12, 13, 14, 15);
        Due.due("copy all", x.copyElements(0, 2, 1, 0, 4), 4);
        rowIs(x, 1, 12, 13, 14, 15);
        Due.due("copy none", x.copyElements(0, 0, 1, 0, 0), 0);
        Due.due("copy none from the end to the end", x.copyElements(0, 6, 1, 4, 0), 0);
        rowIs(x, 1, 12, 13, 14, 15);
    }

    private static void copyOverlapping() {
        DecisionTableCompiler x = twoRows();
        Due.due("copy upwards within", x.copyElements(0, 0, 0, 2, 4), 4);
        rowIs(x, 0, 10, 11, 10, 11, 12, 13);
        x = twoRows();
        Due.due("copy downwards within", x.copyElements(0, 2, 0, 0, 4), 4);
        rowIs(x, 0, 12, 13, 14, 15, 14, 15);
    }

    private static void copyFaults() {
        DecisionTableCompiler x = twoRows();
        x.allocate(2, 1, 9);
        for (int bad : NO_SLOTS) {
            Due.due("copy from slot " + bad, x.copyElements(bad, 0, 0, 0, 1), -1);
            Due.due("copy to slot " + bad, x.copyElements(0, 0, bad, 0, 1), -1);
            Due.due("the slot is checked before empty", x.copyElements(3, 0, bad, 0, 1), -1);
            Due.due("the slot is checked before empty", x.copyElements(bad, 0, 3, 0, 1), -1);
        }
        Due.due("copy from an empty slot", x.copyElements(3, 0, 0, 0, 1), -11);
        Due.due("copy to an empty slot", x.copyElements(0, 0, 3, 0, 1), -11);
        Due.due("copy within an empty slot", x.copyElements(3, 0, 3, 0, 0), -11);
        Due.due("empty is checked before the index", x.copyElements(0, -1, 3, 0, 1), -11);
        Due.due("copy to another type", x.copyElements(0, 0, 2, 0, 1), -12);
        Due.due("copy none to another type", x.copyElements(0, 0, 2, 0, 0), -12);
        Due.due("the type is checked before the index", x.copyElements(0, -1, 2, 0, 1), -12);
        rowIs(x, 2, 0, 0, 0);
    }

    private static void copyRanges() {
        int[] numbers = {MIN, -1, 0, 1, 2, 3, 4, 5, 6, 7, MAX - 3, MAX};
        for (int from : numbers) {
            DecisionTableCompiler x = twoRows();
            for (int to : numbers) {
                for (int count : numbers) {
                    boolean fine = from >= 0 && to >= 0 && count >= 0
                            && (long) from + count <= 6 && (long) to + count <= 4;
                    String call = "copyElements(0, " + from + ", 1, " + to + ", " + count + ")";
                    Due.due(call, x.copyElements(0, from, 1, to, count), fine ? count : -13);
                }
            }
            rowIs(x, 0, 10, 11, 12, 13, 14, 15);
        }
    }

    private static void storeActions() {
        DecisionTableCompiler x = Due.table(Due.sizes(2, 3), "0,*:9", "1,1:0");
        x.allocate(1, 3, 700);
        Due.due("storeActions", x.storeActions(1), 6);
        rowIs(x, 1, 9, 9, 9, -1, 0, -1);
        Due.due("it has as many elements as cases", x.element(1, 6), NO_VALUE);
        x.putElement(1, 0, 200);
        Due.due("its elements are bytes", x.element(1, 0), -56);
        x.setDefault(4);
        Due.due("storeActions again", x.storeActions(1), 6);
        rowIs(x, 1, 9, 9, 9, 4, 0, 4);
        for (int bad : NO_SLOTS) {
            Due.due("storeActions(" + bad + ")", x.storeActions(bad), -1);
        }
        x.reset(5, 5, 5, 5);
        Due.due("storeActions of all", x.storeActions(3), 625);
        Due.due("the last", x.element(3, 624), -1);
    }

    private static void compareActions() {
        DecisionTableCompiler x = Due.table(Due.sizes(2, 3), "0,*:9", "1,1:0");
        for (int bad : NO_SLOTS) {
            Due.due("compareActions(" + bad + ")", x.compareActions(bad), -1);
        }
        Due.due("compareActions of an empty slot", x.compareActions(0), -11);
        for (int type = 0; type < 4; type++) {
            x.allocate(0, type, 6);
            Due.due("compareActions of type " + type, x.compareActions(0), type == 1 ? 0 : -12);
        }
        x.allocate(0, 2, 0);
        Due.due("the type is checked before the size", x.compareActions(0), -12);
        x.storeActions(0);
        Due.due("no difference", x.compareActions(0), -6);
        x.putElement(0, 5, 0);
        Due.due("the last differs", x.compareActions(0), 5);
        x.putElement(0, 3, 1);
        Due.due("the lowest that differs", x.compareActions(0), 3);
        x.storeActions(0);
        x.allocate(1, 1, 5);
        x.copyElements(0, 0, 1, 0, 5);
        Due.due("the array is too short", x.compareActions(1), -13);
        x.putElement(1, 4, 8);
        Due.due("a lower case differs", x.compareActions(1), 4);
        x.allocate(2, 1, 0);
        Due.due("no element at all", x.compareActions(2), -13);
        x.allocate(2, 1, 9);
        x.copyElements(0, 0, 2, 0, 6);
        x.putElement(2, 7, 3);
        Due.due("elements behind the cases do not count", x.compareActions(2), -6);
        x.setDefault(1);
        Due.due("the default action counts", x.compareActions(0), 3);
    }
}
