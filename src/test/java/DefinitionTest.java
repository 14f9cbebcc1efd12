import java.util.ArrayList;
import java.util.Arrays;
import java.util.List;

/**
 * What 'Terms' says of flows and modes, word for word, on small networks: all rates in whole numbers up
 * to a bound are tried, and nothing is known of them but the document's sentences. The bound is that of
 * the determinants, so that some multiple of every mode is among the rates tried.
 */
public final class DefinitionTest {
    private static final Check CHECK = new Check("DefinitionTest");

    /** M, R, the greatest entry and the greatest rate tried; of all such networks each step-th is taken. */
    private record Kind(int m, int r, int mostEntry, int mostRate, int step) {
    }

    public static void main(String[] args) {
        networks(new Kind(0, 4, 0, 2, 1));
        networks(new Kind(1, 2, 9, 9, 1));
        networks(new Kind(1, 3, 4, 4, 1));
        networks(new Kind(2, 3, 2, 8, 7));
        networks(new Kind(2, 4, 1, 2, 1));
        networks(new Kind(3, 4, 1, 4, 101));
        CHECK.end();
    }

    private static void networks(Kind kind) {
        List<int[]> rates = numbers(kind.r, kind.mostRate, 1);
        for (int[] entries : numbers(kind.m * kind.r, kind.mostEntry, kind.step)) {
            int[][] rows = new int[kind.m][];
            for (int i = 0; i < kind.m; i++) {
                rows[i] = Arrays.copyOfRange(entries, i * kind.r, (i + 1) * kind.r);
            }
            List<int[]> balanced = balanced(rows, rates);
            for (int reversibles = 0; reversibles < 1 << kind.r; reversibles++) {
                compare(rows, kind.r, reversibles, listed(balanced, reversibles));
            }
        }
    }

    /** Every row of so many numbers from -most to most, or each step-th of them. */
    private static List<int[]> numbers(int length, int most, int step) {
        int base = 2 * most + 1;
        int all = 1;
        for (int n = 0; n < length; n++) {
            all *= base;
        }
        List<int[]> rows = new ArrayList<>();
        for (int number = 0; number < all; number += step) {
            int[] row = new int[length];
            int left = number;
            for (int n = 0; n < length; n++) {
                row[n] = left % base - most;
                left /= base;
            }
            rows.add(row);
        }
        return rows;
    }

    /** Rates, not all 0, such that for each metabolite the sum of entry times rate is 0. */
    private static List<int[]> balanced(int[][] rows, List<int[]> rates) {
        List<int[]> found = new ArrayList<>();
        for (int[] rate : rates) {
            boolean balances = support(rate) != 0;
            for (int i = 0; i < rows.length && balances; i++) {
                int sum = 0;
                for (int j = 0; j < rate.length; j++) {
                    sum += rows[i][j] * rate[j];
                }
                balances = sum == 0;
            }
            if (balances) {
                found.add(rate);
            }
        }
        return found;
    }

    /** The listed modes, in rising order of the supports. */
    private static List<int[]> listed(List<int[]> balanced, int reversibles) {
        List<int[]> flows = new ArrayList<>();
        for (int[] rate : balanced) {
            if ((negative(rate) & ~reversibles) == 0) {
                flows.add(rate);
            }
        }
        List<int[]> modes = new ArrayList<>();
        for (int[] flow : flows) {
            if (isListed(flow, reversibles) && isMode(flow, flows)) {
                modes.add(flow);
            }
        }
        modes.sort((a, b) -> Integer.compare(support(a), support(b)));
        return modes;
    }

    /** No flow has a support that lies inside its own and is smaller. */
    private static boolean isMode(int[] flow, List<int[]> flows) {
        int own = support(flow);
        for (int[] other : flows) {
            int set = support(other);
            if (set != own && (set & ~own) == 0) {
                return false;
            }
        }
        return true;
    }

    private static boolean isListed(int[] flow, int reversibles) {
        int divisor = 0;
        for (int rate : flow) {
            divisor = gcd(divisor, Math.abs(rate));
        }
        int set = support(flow);
        int mustBePositive = (set & ~reversibles) != 0 ? set & ~reversibles : Integer.lowestOneBit(set);
        return divisor == 1 && (negative(flow) & mustBePositive) == 0;
    }

    private static int gcd(int a, int b) {
        return b == 0 ? a : gcd(b, a % b);
    }

    private static int support(int[] rates) {
        int set = 0;
        for (int j = 0; j < rates.length; j++) {
            set |= rates[j] != 0 ? 1 << j : 0;
        }
        return set;
    }

    private static int negative(int[] rates) {
        int set = 0;
        for (int j = 0; j < rates.length; j++) {
            set |= rates[j] < 0 ? 1 << j : 0;
        }
        return set;
    }

    private static void compare(int[][] rows, int reactions, int reversibles, List<int[]> want) {
        FluxModes x = new FluxModes();
        Networks.put(x, rows, reactions, reversibles);
        int solved = x.solve();
        StringBuilder got = new StringBuilder().append(solved);
        StringBuilder due = new StringBuilder().append(want.size());
        for (int k = 0; k < want.size(); k++) {
            got.append(" | ").append(x.support(k));
            due.append(" | ").append(support(want.get(k)));
            for (int j = 0; j < reactions; j++) {
                got.append(' ').append(x.rate(k, j));
                due.append(' ').append(want.get(k)[j]);
            }
        }
        boolean same = got.compareTo(due) == 0;
        String shown = same ? "" : Arrays.deepToString(rows) + " reversible " + reversibles + ": " + got + ", not " + due;
        CHECK.due(shown, same, true);
    }
}
