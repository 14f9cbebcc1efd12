/** Numbers at and past the ends of a range. */
final class Numbers {
    private Numbers() {
    }

    /**
     * Numbers that are not least .. greatest: the next ones, the ends of int, and those that come back
     * into the range where a shift, a row of eight, a byte or a short wraps round.
     */
    static int[] outside(int least, int greatest) {
        return new int[] {
            Integer.MIN_VALUE, Integer.MIN_VALUE + 1, least + Integer.MIN_VALUE, least - (1 << 29),
            least - 65536, least - 256, least - 128, least - 32, least - 2, least - 1,
            greatest + 1, greatest + 2, least + 128, least + 256, least + 65536, least + (1 << 29),
            Integer.MAX_VALUE - 1, Integer.MAX_VALUE};
    }

    /** How many ways there are to take so many of these. */
    static int choose(int these, int many) {
        if (many < 0 || many > these) {
            return 0;
        }
        int ways = 1;
        for (int n = 1; n <= many; n++) {
            ways = ways * (these - many + n) / n;
        }
        return ways;
    }
}
