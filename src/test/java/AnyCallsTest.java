import java.util.Random;

/** Long runs of calls with any arguments: none throws, and a refused one changes nothing. */
public final class AnyCallsTest {
    private static final Check CHECK = new Check("AnyCallsTest");
    private static final int RUNS = 400;
    private static final int CALLS = 512;

    public static void main(String[] args) {
        Random random = new Random(512L);
        for (int run = 0; run < RUNS; run++) {
            anyRun(random, run);
        }
        dearestRun();
        CHECK.end();
    }

    private static void anyRun(Random random, int run) {
        FluxModes x = new FluxModes();
        int[][] entries = new int[6][8];
        int m = 0;
        int r = 1;
        int reversibles = 0;
        int listed = 0;
        // A turn makes eight calls at most.
        for (int n = 0; n <= CALLS - 8; n++) {
            int a = any(random);
            int b = any(random);
            int c = any(random);
            String when = "run " + run + ", call " + n + " with " + a + ", " + b + ", " + c;
            switch (random.nextInt(20)) {
                case 0:
                    boolean sized = a >= 0 && a <= 6 && b >= 1 && b <= 8;
                    CHECK.due("size, " + when, x.size(a, b), sized);
                    if (sized) {
                        m = a;
                        r = b;
                        entries = new int[6][8];
                        reversibles = 0;
                        listed = 0;
                    }
                    break;
                case 1:
                    boolean is = b >= 0 && b < r;
                    CHECK.due("reversible, " + when, x.reversible(b, c > 0), is);
                    if (is) {
                        reversibles = c > 0 ? reversibles | 1 << b : reversibles & ~(1 << b);
                    }
                    break;
                case 2:
                    listed = x.solve();
                    CHECK.due("solve within bounds, " + when, listed >= 0 && listed <= 70, true);
                    break;
                case 3:
                    CHECK.due("support, " + when, x.support(a) != 0, a >= 0 && a < listed);
                    CHECK.due("rate, " + when, x.rate(a, b) == 0 || a >= 0 && a < listed, true);
                    CHECK.due("within, " + when, x.within(a) <= listed, true);
                    CHECK.due("running, " + when, x.running(a, b) <= listed, true);
                    CHECK.due("shortest, " + when, x.shortest(a) <= m + 1, true);
                    n += 4;
                    break;
                default:
                    boolean entered = a >= 0 && a < m && b >= 0 && b < r && c >= -9 && c <= 9;
                    CHECK.due("enter, " + when, x.enter(a, b, c), entered);
                    if (entered) {
                        entries[a][b] = c;
                    }
                    break;
            }
            boolean there = a >= 0 && a < m && b >= 0 && b < r;
            CHECK.due("entry, " + when, x.entry(a, b), there ? entries[a][b] : 0);
            CHECK.due("reversibles, " + when, x.reversibles(), reversibles);
            CHECK.due("modes, " + when, x.modes(), listed);
            n += 3;
        }
    }

    /** As many solve() as an object may have, with the longest list. */
    private static void dearestRun() {
        FluxModes x = Networks.seventy();
        // Making the network took 33 calls.
        for (int n = 0; n < CALLS - 33; n++) {
            CHECK.due("solve() number " + n, x.solve(), 70);
        }
    }

    /** Mostly a number near those that are named, now and then any int. */
    private static int any(Random random) {
        return random.nextInt(12) == 0 ? random.nextInt() : random.nextInt(13) - 3;
    }
}
