/** Arguments that are too small and too large. */
final class Wrong {
    private static final int LEAST = Integer.MIN_VALUE;
    private static final int GREATEST = Integer.MAX_VALUE;

    // 1 << 28, times 16, is 0 for an int: a place that is tested too late would look like place 0.
    static final int[] PROCESSES = {LEAST, -(1 << 28), -2, -1, 15, 16, 1 << 28, GREATEST};
    static final int[] DESCRIPTORS = {LEAST, -16, -2, -1, 16, 17, 32, GREATEST};
    static final int[] KINDS = {LEAST, -2, -1, 0, 1, 4, 5, GREATEST};
    static final int[] HOWS = {LEAST, -3, -2, -1, 0, 4, 5, 7, GREATEST};
    static final int[] WHATS_ABOUT = {LEAST, -2, -1, 7, 8, GREATEST};
    static final int[] WHATS_ENDS = {LEAST, -2, -1, 3, 4, GREATEST};
    static final int[] WHATS_WAITING = {LEAST, -2, -1, 2, 3, GREATEST};
    static final int[] PIPES = {LEAST, -2, -1, 8, 9, 15, GREATEST};
    static final int[] PLACES = {LEAST, LEAST + 1, -500, -2, -1};
    // With the low eight bits of 8, 4, 10, 13, 21 and 127 among them.
    static final int[] BYTES = {
        LEAST, -256, -248, -246, -1, 256, 260, 264, 266, 269, 277, 383, 512, GREATEST
    };

    private Wrong() {
    }
}
