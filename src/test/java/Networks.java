/** Networks that several tests use. */
final class Networks {
    static final int[] ODD = {Integer.MIN_VALUE, -1000, -33, -32, -2, -1, 8, 9, 31, 32, 33, 70, 1000,
        Integer.MAX_VALUE - 1, Integer.MAX_VALUE};

    private Networks() {
    }

    /** A new object with these rows of entries and this set of reversible reactions. */
    static FluxModes of(int[][] rows, int reversibles) {
        FluxModes x = new FluxModes();
        put(x, rows, rows[0].length, reversibles);
        return x;
    }

    /** Gives the object this network: at most 57 calls. */
    static void put(FluxModes x, int[][] rows, int reactions, int reversibles) {
        x.size(rows.length, reactions);
        for (int i = 0; i < rows.length; i++) {
            for (int j = 0; j < reactions; j++) {
                x.enter(i, j, rows[i][j]);
            }
        }
        for (int j = 0; j < reactions; j++) {
            x.reversible(j, (reversibles >> j & 1) != 0);
        }
    }

    /**
     * 2a - 3b + 4c = 0 with c reversible. Modes: {a, b} = (3, 2, 0),
     * {a, c} = (2, 0, -1), {b, c} = (0, 4, 3).
     */
    static FluxModes triangle() {
        return of(new int[][] {{2, -3, 4}}, 4);
    }

    /** Any three columns (1, t, t * t), with (0, 0, 1) among them, are free: so any four are a mode. */
    static FluxModes seventy() {
        int[][] rows = {
            {1, 1, 1, 1, 1, 1, 1, 0},
            {-3, -2, -1, 0, 1, 2, 3, 0},
            {9, 4, 1, 0, 1, 4, 9, 1}};
        return of(rows, 255);
    }

    /** One mode of all seven reactions, with rates near the largest that can be. */
    static FluxModes large() {
        return of(new int[][] {
            {4, -9, 9, 9, -8, 9, 9},
            {-1, 9, -9, -9, 9, 9, 9},
            {1, 9, -8, 9, 9, 9, -9},
            {-5, 9, 9, -9, -9, 8, -9},
            {5, -9, 9, -9, 9, 9, -8},
            {6, -9, -9, -8, -9, 9, -9}}, 127);
    }

    /** Seven reactions in a row, each taking what the one before makes: their rates rise from 8^6 to 9^6. */
    static FluxModes chain() {
        int[][] rows = new int[6][7];
        for (int i = 0; i < 6; i++) {
            rows[i][i] = 9;
            rows[i][i + 1] = -8;
        }
        return of(rows, 0);
    }

    /** Six metabolites and eight reactions, each entry its mark, all reactions reversible. */
    static FluxModes full() {
        int[][] rows = new int[6][8];
        for (int i = 0; i < 6; i++) {
            for (int j = 0; j < 8; j++) {
                rows[i][j] = mark(i, j);
            }
        }
        return of(rows, 255);
    }

    /** Another number for neighbours, and never 0. */
    static int mark(int i, int j) {
        int v = (i * 8 + j) * 7 % 18 - 9;
        return v < 0 ? v : v + 1;
    }

    static FluxModes solved(FluxModes x) {
        x.solve();
        return x;
    }
}
