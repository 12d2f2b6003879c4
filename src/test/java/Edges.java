/** Numbers at which and beyond which calls refuse. */
final class Edges {
    /** Beyond every range of the document but that of a SPAN; some are 0, cut to fewer bits. */
    static final int[] FAR = {Integer.MIN_VALUE, Integer.MIN_VALUE + 1, -65536, 65536, 1 << 24, Integer.MAX_VALUE};

    /** A question for one cell of the rows of an answer. */
    interface Cells {
        long at(int k, int what);
    }

    private Edges() {
    }

    /** All that lies outside of least to greatest: the neighbours first, then those far away. */
    static int[] outside(int least, int greatest) {
        int[] numbers = new int[FAR.length + 2];
        numbers[0] = least - 1;
        numbers[1] = greatest + 1;
        System.arraycopy(FAR, 0, numbers, 2, FAR.length);
        return numbers;
    }

    /** There is no other row and no other column; least of all one that a neighbour's row could answer. */
    static void onlyCells(Check check, String name, int rows, int columns, Cells cells) {
        for (int k : outside(0, rows - 1)) {
            for (int what = 0; what < columns; what++) {
                check.due(name + "(" + k + ", " + what + ")", cells.at(k, what), -1);
            }
        }
        for (int k = 0; k < rows; k++) {
            for (int what : outside(0, columns - 1)) {
                check.due(name + "(" + k + ", " + what + ")", cells.at(k, what), -1);
            }
        }
    }
}
