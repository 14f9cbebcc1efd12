/** Networks that several tests use. */
final class Networks {
    static final int[] ODD = {Integer.MIN_VALUE, -1000, -33, -32, -2, -1, 8, 9, 31, 32, 33, 70, 1000,
        Integer.MAX_VALUE - 1, Integer.MAX_VALUE};

    private Networks() {
    }

    /** A new object with these rows of entries and this set of reversible reactions. */
    static FluxModes of(int[][] rows, int reversibles) {
        FluxModes x = new FluxModes();
        put(x, rows, rows[0].length, reversibles);
        return x;
    }

    /** Gives the object this network: at most 57 calls. */
    static void put(FluxModes x, int[][] rows, int reactions, int reversibles) {
        x.size(rows.length, reactions);
        for (int i = 0; i < rows.length; i++) {
            for (int j = 0; j < reactions; j++) {
                x.enter(i, j, rows[i][j]);
            }
        }
        for (int j = 0; j < reactions; j++) {
            x.reversible(j, (reversibles >> j & 1) != 0);
        }
    }

    /**
     * 2a - 3b + 4c = 0 with c reversible. Modes: {a, b} = (3, 2, 0),
     * {a, c} = (2, 0, -1), {b, c} = (0, 4, 3).
     */
    static FluxModes triangle() {
        return of(new int[][] {{2, -3, 4}}, 4);
    }

    /** Any three columns (1, t, t * t), with (0, 0, 1) among them, are free: so any four are a mode. */
    static FluxModes seventy() {
        int[][] rows = {
            {1, 1, 1, 1, 1, 1, 1, 0},
            {-3, -2, -1, 0, 1, 2, 3, 0},
            {9, 4, 1, 0, 1, 4, 9, 1}};
        return of(rows, 255);
    }
}
