import java.util.Arrays;

/** A network of reactions and all its elementary modes. */
public final class FluxModes {
    private static final int MOST_METABOLITES = 6;
    private static final int MOST_REACTIONS = 8;
    private static final int MOST_ENTRY = 9;
    private static final int MOST_MODES = 70;

    /** Row i, column j stands at i * MOST_REACTIONS + j. */
    private final int[] entries;
    private int metabolites;
    private int reactions;
    private int reversibleSet;

    private final int[] listedSupports;
    /** The rate of reaction j in mode k stands at k * MOST_REACTIONS + j. */
    private final int[] listedRates;
    private int listed;

    /** Made once and used by every solve(), so that solving makes no objects. */
    private final Reduction reduction;
    private final long[] flow;

    public FluxModes() {
        entries = new int[MOST_METABOLITES * MOST_REACTIONS];
        listedSupports = new int[MOST_MODES];
        listedRates = new int[MOST_MODES * MOST_REACTIONS];
        reduction = new Reduction();
        flow = new long[MOST_REACTIONS];
        metabolites = 0;
        reactions = 1;
        reversibleSet = 0;
        listed = 0;
    }

    public boolean size(int m, int r) {
        if (m < 0 || m > MOST_METABOLITES || r < 1 || r > MOST_REACTIONS) {
            return false;
        }
        metabolites = m;
        reactions = r;
        Arrays.fill(entries, 0);
        reversibleSet = 0;
        listed = 0;
        return true;
    }

    public boolean enter(int i, int j, int v) {
        if (!hasEntry(i, j) || v < -MOST_ENTRY || v > MOST_ENTRY) {
            return false;
        }
        entries[i * MOST_REACTIONS + j] = v;
        return true;
    }

    public int entry(int i, int j) {
        return hasEntry(i, j) ? entries[i * MOST_REACTIONS + j] : 0;
    }

    public boolean reversible(int j, boolean on) {
        if (!hasReaction(j)) {
            return false;
        }
        int bit = 1 << j;
        reversibleSet = on ? reversibleSet | bit : reversibleSet & ~bit;
        return true;
    }

    public int reversibles() {
        return reversibleSet;
    }

    public int solve() {
        listed = 0;
        int end = 1 << reactions;
        for (int set = 1; set < end; set++) {
            listIfSupport(set);
        }
        return listed;
    }

    public int modes() {
        return listed;
    }

    public int support(int k) {
        return isListed(k) ? listedSupports[k] : 0;
    }

    public int rate(int k, int j) {
        return isListed(k) && isColumn(j) ? listedRates[k * MOST_REACTIONS + j] : 0;
    }

    public int within(int set) {
        int inside = 0;
        for (int k = 0; k < listed; k++) {
            if ((listedSupports[k] & ~set) == 0) {
                inside++;
            }
        }
        return inside;
    }

    public int running(int j, int how) {
        if (!isColumn(j)) {
            return 0;
        }
        int found = 0;
        for (int k = 0; k < listed; k++) {
            if (runs(listedRates[k * MOST_REACTIONS + j], how)) {
                found++;
            }
        }
        return found;
    }

    public int shortest(int j) {
        if (!isColumn(j)) {
            return 0;
        }
        int least = 0;
        for (int k = 0; k < listed; k++) {
            if (has(listedSupports[k], j)) {
                int length = Integer.bitCount(listedSupports[k]);
                least = least == 0 ? length : Math.min(least, length);
            }
        }
        return least;
    }

    private boolean hasEntry(int i, int j) {
        return i >= 0 && i < metabolites && hasReaction(j);
    }

    private boolean hasReaction(int j) {
        return j >= 0 && j < reactions;
    }

    private boolean isListed(int k) {
        return k >= 0 && k < listed;
    }

    private static boolean isColumn(int j) {
        return j >= 0 && j < MOST_REACTIONS;
    }

    private static boolean has(int set, int j) {
        return (set >> j & 1) != 0;
    }

    private static boolean runs(int rate, int how) {
        if (how == 1) {
            return rate > 0;
        }
        return how == -1 ? rate < 0 : rate != 0;
    }

    /**
     * A flow's support is least exactly where the balance alone leaves one
     * flow (and its multiples) over the set and that flow uses all of it: with
     * a second one to add, some rate could be brought to 0 without any other
     * changing its sign. So only that flow's direction is left to look at.
     */
    private void listIfSupport(int set) {
        if (listed >= MOST_MODES) {
            return;
        }
        loadColumns(set);
        if (!reduction.leavesOneFullFlow()) {
            return;
        }
        readFlow(set);
        int direction = allowedDirection(set);
        if (direction != 0) {
            list(set, direction);
        }
    }

    private void loadColumns(int set) {
        reduction.begin(metabolites);
        for (int j = 0; j < reactions; j++) {
            if (has(set, j)) {
                reduction.addColumn(entries, j);
            }
        }
    }

    private void readFlow(int set) {
        int column = 0;
        for (int j = 0; j < MOST_REACTIONS; j++) {
            if (has(set, j)) {
                flow[j] = reduction.flowAt(column);
                column++;
            } else {
                flow[j] = 0;
            }
        }
    }

    /** 1 if the flow may be listed as it is, -1 if turned round, 0 if neither. */
    private int allowedDirection(int set) {
        int forward = 0;
        for (int j = 0; j < MOST_REACTIONS; j++) {
            if (flow[j] > 0) {
                forward |= 1 << j;
            }
        }
        int backward = set & ~forward;
        int oneWay = set & ~reversibleSet;
        if (oneWay == 0) {
            int least = set & -set;
            return (forward & least) != 0 ? 1 : -1;
        }
        if ((oneWay & backward) == 0) {
            return 1;
        }
        return (oneWay & forward) == 0 ? -1 : 0;
    }

    private void list(int set, int direction) {
        long divisor = 0;
        for (int j = 0; j < MOST_REACTIONS; j++) {
            divisor = commonDivisor(divisor, flow[j]);
        }
        for (int j = 0; j < MOST_REACTIONS; j++) {
            long rate = direction * quotient(flow[j], divisor);
            listedRates[listed * MOST_REACTIONS + j] = (int) rate;
        }
        listedSupports[listed] = set;
        listed++;
    }

    private static long commonDivisor(long a, long b) {
        long greater = Math.abs(a);
        long rest = Math.abs(b);
        // Two longs never need more than 92 steps.
        for (int step = 0; step < 100 && rest != 0; step++) {
            long next = greater % rest;
            greater = rest;
            rest = next;
        }
        return greater;
    }

    private static long quotient(long value, long divisor) {
        return divisor == 0 ? 0 : value / divisor;
    }

    /**
     * The columns of a set of reactions, brought to diagonal form in whole
     * numbers: every cell stays a minor of the columns (the division by the
     * pivot before leaves no rest), which entries from -9 to 9 in six rows
     * keep under 115 million, so that no product leaves a long.
     */
    private static final class Reduction {
        private final long[] cells;
        private int rows;
        private int columns;
        private long pivot;

        Reduction() {
            cells = new long[MOST_METABOLITES * MOST_REACTIONS];
            rows = 0;
            columns = 0;
            pivot = 1;
        }

        void begin(int metabolites) {
            rows = Math.max(0, Math.min(metabolites, MOST_METABOLITES));
            columns = 0;
            pivot = 1;
        }

        void addColumn(int[] entries, int reaction) {
            if (columns >= MOST_REACTIONS) {
                return;
            }
            for (int row = 0; row < rows; row++) {
                cells[row * MOST_REACTIONS + columns] = entries[row * MOST_REACTIONS + reaction];
            }
            columns++;
        }

        /** Whether one flow and its multiples balance the columns, and it uses each. */
        boolean leavesOneFullFlow() {
            int last = columns - 1;
            if (last < 0 || last > rows) {
                return false;
            }
            for (int column = 0; column < last; column++) {
                if (!clearColumn(column)) {
                    return false;
                }
            }
            for (int row = 0; row < rows; row++) {
                boolean zero = cells[row * MOST_REACTIONS + last] == 0;
                boolean used = row < last;
                if (zero == used) {
                    return false;
                }
            }
            return true;
        }

        /** Row c reads pivot * (rate of c) + cell * (rate of the last) = 0. */
        long flowAt(int column) {
            int last = columns - 1;
            if (column < 0 || column >= last || column >= rows) {
                return pivot;
            }
            return -cells[column * MOST_REACTIONS + last];
        }

        /** Makes row and column of the same number the pivot's; false if no row is left for it. */
        private boolean clearColumn(int column) {
            int found = pivotRow(column);
            if (found < 0) {
                return false;
            }
            swapRows(column, found);
            long next = cells[column * MOST_REACTIONS + column];
            for (int row = 0; row < rows; row++) {
                if (row != column) {
                    clearRow(row, column, next);
                }
            }
            pivot = next;
            return true;
        }

        private int pivotRow(int column) {
            for (int row = column; row < rows; row++) {
                if (cells[row * MOST_REACTIONS + column] != 0) {
                    return row;
                }
            }
            return -1;
        }

        private void swapRows(int a, int b) {
            for (int column = 0; column < columns; column++) {
                long kept = cells[a * MOST_REACTIONS + column];
                cells[a * MOST_REACTIONS + column] = cells[b * MOST_REACTIONS + column];
                cells[b * MOST_REACTIONS + column] = kept;
            }
        }

        /** Cells up to the cleared column are left as they are: none is read again. */
        private void clearRow(int row, int column, long next) {
            int base = row * MOST_REACTIONS;
            int pivotBase = column * MOST_REACTIONS;
            long factor = cells[base + column];
            for (int c = column + 1; c < columns; c++) {
                long value = next * cells[base + c] - factor * cells[pivotBase + c];
                cells[base + c] = quotient(value, pivot);
            }
        }
    }
}
