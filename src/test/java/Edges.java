/** Numbers at which and beyond which calls refuse. */
final class Edges {
    /** Beyond every range of the document but that of a SPAN; some are 0, cut to fewer bits. */
    static final int[] FAR = {Integer.MIN_VALUE, Integer.MIN_VALUE + 1, -65536, 65536, 1 << 24, Integer.MAX_VALUE};

    private Edges() {
    }

    /** All that lies outside of least to greatest: the neighbours first, then those far away. */
    static int[] outside(int least, int greatest) {
        int[] numbers = new int[FAR.length + 2];
        numbers[0] = least - 1;
        numbers[1] = greatest + 1;
        System.arraycopy(FAR, 0, numbers, 2, FAR.length);
        return numbers;
    }
}
