/** Numbers around the edges that the document names. */
final class Edges {
    private static final int[] BELOW = {-1, -2, -3, -40, -200, -256, -65536, Integer.MIN_VALUE, Integer.MIN_VALUE + 1};

    private Edges() {
    }

    /** Numbers below 0, and beyond a last one: the next, and those that a cut to fewer bits would bring back to 0. */
    static int[] outside(int last) {
        int[] beyond = {last + 1, last + 2, 255, 256, 65536, 1 << 24, 1 << 30, Integer.MAX_VALUE - 1, Integer.MAX_VALUE};
        int[] all = new int[BELOW.length + beyond.length];
        System.arraycopy(BELOW, 0, all, 0, BELOW.length);
        System.arraycopy(beyond, 0, all, BELOW.length, beyond.length);
        return all;
    }
}
