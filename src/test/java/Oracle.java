import java.math.BigInteger;
import java.util.ArrayList;
import java.util.List;
import java.util.TreeMap;

/**
 * The modes of a network by another way than the class goes: every reversible
 * reaction is split in two, the rays of the cone that is left are grown a
 * metabolite at a time, and of the flows they stand for those of least support
 * are kept. It is slow and says nothing of bounds.
 */
final class Oracle {
    private Oracle() {
    }

    /** The listed rates by support. */
    static TreeMap<Integer, BigInteger[]> modes(int[][] entries, int reactions, int reversibles) {
        List<BigInteger[]> rays = units(2 * reactions, reactions, reversibles);
        for (int[] row : entries) {
            rays = balanced(rays, row, reactions);
        }
        TreeMap<Integer, BigInteger[]> flows = new TreeMap<>();
        for (BigInteger[] ray : rays) {
            BigInteger[] flow = joined(ray, reactions);
            if (support(flow) != 0) {
                flows.put((int) support(flow), listed(flow, reversibles));
            }
        }
        TreeMap<Integer, BigInteger[]> modes = new TreeMap<>();
        for (int set : flows.keySet()) {
            boolean least = true;
            for (int other : flows.keySet()) {
                least &= other == set || (other & ~set) != 0;
            }
            if (least) {
                modes.put(set, flows.get(set));
            }
        }
        return modes;
    }

    private static List<BigInteger[]> units(int width, int reactions, int reversibles) {
        List<BigInteger[]> rays = new ArrayList<>();
        for (int c = 0; c < width; c++) {
            if (c < reactions || (reversibles >> (c - reactions) & 1) != 0) {
                BigInteger[] ray = new BigInteger[width];
                java.util.Arrays.fill(ray, BigInteger.ZERO);
                ray[c] = BigInteger.ONE;
                rays.add(ray);
            }
        }
        return rays;
    }

    private static List<BigInteger[]> balanced(List<BigInteger[]> rays, int[] row, int reactions) {
        List<BigInteger[]> next = new ArrayList<>();
        for (BigInteger[] a : rays) {
            if (sum(a, row, reactions).signum() == 0) {
                next.add(a);
            }
        }
        for (BigInteger[] a : rays) {
            BigInteger made = sum(a, row, reactions);
            for (BigInteger[] b : rays) {
                BigInteger taken = sum(b, row, reactions);
                if (made.signum() > 0 && taken.signum() < 0) {
                    long both = support(a) | support(b);
                    if (adjacent(rays, a, b, both)) {
                        next.add(combined(a, taken.negate(), b, made));
                    }
                }
            }
        }
        return next;
    }

    private static boolean adjacent(List<BigInteger[]> rays, BigInteger[] a, BigInteger[] b, long both) {
        for (BigInteger[] c : rays) {
            if (c != a && c != b && (support(c) & ~both) == 0) {
                return false;
            }
        }
        return true;
    }

    private static BigInteger sum(BigInteger[] ray, int[] row, int reactions) {
        BigInteger sum = BigInteger.ZERO;
        for (int j = 0; j < reactions; j++) {
            BigInteger net = ray[j].subtract(ray[j + reactions]);
            sum = sum.add(net.multiply(BigInteger.valueOf(row[j])));
        }
        return sum;
    }

    private static BigInteger[] combined(BigInteger[] a, BigInteger p, BigInteger[] b, BigInteger q) {
        BigInteger[] ray = new BigInteger[a.length];
        for (int c = 0; c < ray.length; c++) {
            ray[c] = a[c].multiply(p).add(b[c].multiply(q));
        }
        return primitive(ray);
    }

    private static BigInteger[] joined(BigInteger[] ray, int reactions) {
        BigInteger[] flow = new BigInteger[reactions];
        for (int j = 0; j < reactions; j++) {
            flow[j] = ray[j].subtract(ray[j + reactions]);
        }
        return flow;
    }

    private static BigInteger[] listed(BigInteger[] flow, int reversibles) {
        BigInteger[] mode = primitive(flow);
        int set = (int) support(mode);
        int first = Integer.numberOfTrailingZeros(set);
        if ((set & ~reversibles) == 0 && mode[first].signum() < 0) {
            for (int j = 0; j < mode.length; j++) {
                mode[j] = mode[j].negate();
            }
        }
        return mode;
    }

    private static BigInteger[] primitive(BigInteger[] row) {
        BigInteger divisor = BigInteger.ZERO;
        for (BigInteger v : row) {
            divisor = divisor.gcd(v);
        }
        BigInteger[] result = new BigInteger[row.length];
        for (int c = 0; c < row.length; c++) {
            result[c] = row[c].divide(divisor);
        }
        return result;
    }

    private static long support(BigInteger[] row) {
        long set = 0;
        for (int c = 0; c < row.length; c++) {
            if (row[c].signum() != 0) {
                set |= 1L << c;
            }
        }
        return set;
    }
}
