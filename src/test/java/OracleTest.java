import java.math.BigInteger;
import java.util.Random;
import java.util.TreeMap;

/** Promises 7 to 13 on many networks, against the oracle; the seed is fixed, so each run is the same. */
public final class OracleTest {
    private static final Check CHECK = new Check("OracleTest");
    private static final int NETWORKS = 3000;
    /** So many modes are looked at on one object that its 512 calls are enough. */
    private static final int MODES_AT_ONCE = 40;

    private record Network(int[][] rows, int reactions, int reversibles) {
    }

    public static void main(String[] args) {
        Random random = new Random(20261116L);
        Network before = any(random);
        for (int n = 0; n < NETWORKS; n++) {
            Network network = any(random);
            compare(before, network, "network " + n + " ");
            before = network;
        }
        CHECK.end();
    }

    private static void compare(Network before, Network network, String name) {
        TreeMap<Integer, BigInteger[]> modes =
            Oracle.modes(network.rows, network.reactions, network.reversibles);
        FluxModes x = solved(before, network);
        CHECK.due(name + "modes()", x.modes(), modes.size());
        CHECK.due(name + "solve() again", x.solve(), modes.size());
        counts(x, modes, name);
        for (int from = 0; from < modes.size(); from += MODES_AT_ONCE) {
            rates(solved(before, network), modes, from, name);
        }
    }

    /** An object that has solved this network, and another one before: so it was not empty. */
    private static FluxModes solved(Network before, Network network) {
        FluxModes x = new FluxModes();
        Networks.put(x, before.rows, before.reactions, before.reversibles);
        x.solve();
        Networks.put(x, network.rows, network.reactions, network.reversibles);
        x.solve();
        return x;
    }

    private static Network any(Random random) {
        int m = random.nextInt(7);
        int r = random.nextBoolean() ? 8 - random.nextInt(2) : 1 + random.nextInt(8);
        int thinner = random.nextBoolean() ? 255 : random.nextInt(256);
        int reversibles = random.nextInt(256) & thinner & (1 << r) - 1;
        return new Network(rows(random, m, r), r, reversibles);
    }

    private static int[][] rows(Random random, int m, int r) {
        int kind = random.nextInt(4);
        int[][] rows = new int[m][r];
        for (int i = 0; i < m; i++) {
            for (int j = 0; j < r; j++) {
                rows[i][j] = value(random, kind);
            }
            if (kind == 2 && i > 0 && random.nextInt(3) == 0) {
                rows[i] = rows[random.nextInt(i)].clone();
            }
        }
        return rows;
    }

    private static int value(Random random, int kind) {
        if (kind == 0) {
            return random.nextInt(3) == 0 ? random.nextInt(19) - 9 : 0;
        }
        if (kind == 1) {
            return (random.nextBoolean() ? 1 : -1) * (9 - random.nextInt(2));
        }
        return kind == 2 ? random.nextInt(5) - 2 : random.nextInt(19) - 9;
    }

    private static void rates(FluxModes x, TreeMap<Integer, BigInteger[]> modes, int from, String name) {
        int k = 0;
        for (int set : modes.keySet()) {
            if (k >= from && k < from + MODES_AT_ONCE) {
                BigInteger[] want = modes.get(set);
                CHECK.due(name + "support(" + k + ")", x.support(k), set);
                for (int j = 0; j < 8; j++) {
                    long rate = j < want.length ? want[j].longValueExact() : 0;
                    CHECK.due(name + "rate(" + k + ", " + j + ")", x.rate(k, j), rate);
                }
            }
            k++;
        }
        CHECK.due(name + "support(" + k + ") past the end", x.support(k), 0);
    }

    private static void counts(FluxModes x, TreeMap<Integer, BigInteger[]> modes, String name) {
        for (int j = 0; j < 8; j++) {
            int positive = 0;
            int negative = 0;
            int shortest = 0;
            for (BigInteger[] mode : modes.values()) {
                int sign = j < mode.length ? mode[j].signum() : 0;
                positive += sign > 0 ? 1 : 0;
                negative += sign < 0 ? 1 : 0;
                int length = used(mode);
                if (sign != 0 && (shortest == 0 || length < shortest)) {
                    shortest = length;
                }
            }
            CHECK.due(name + "running(" + j + ", 1)", x.running(j, 1), positive);
            CHECK.due(name + "running(" + j + ", -1)", x.running(j, -1), negative);
            CHECK.due(name + "running(" + j + ", 0)", x.running(j, 0), positive + negative);
            CHECK.due(name + "shortest(" + j + ")", x.shortest(j), shortest);
        }
        for (int set = 0; set < 256; set += 5) {
            int inside = 0;
            for (int support : modes.keySet()) {
                inside += (support | set) == set ? 1 : 0;
            }
            CHECK.due(name + "within(" + set + ")", x.within(set), inside);
        }
    }

    private static int used(BigInteger[] mode) {
        int used = 0;
        for (BigInteger rate : mode) {
            used += rate.signum() != 0 ? 1 : 0;
        }
        return used;
    }
}
