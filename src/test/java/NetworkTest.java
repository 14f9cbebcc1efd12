/** Promises 1 to 6: the network itself. */
public final class NetworkTest {
    private static final Check CHECK = new Check("NetworkTest");

    public static void main(String[] args) {
        promise1New();
        promise2Size();
        promise2Refused();
        promise3Enter();
        promise3Refused();
        promise4Entry();
        promise5Reversible();
        promise5Refused();
        promise6Reversibles();
        CHECK.end();
    }

    private static void promise1New() {
        FluxModes x = new FluxModes();
        CHECK.due("new: modes()", x.modes(), 0);
        CHECK.due("new: support(0)", x.support(0), 0);
        CHECK.due("new: rate(0, 0)", x.rate(0, 0), 0);
        CHECK.due("new: within(-1)", x.within(-1), 0);
        CHECK.due("new: running(0, 0)", x.running(0, 0), 0);
        CHECK.due("new: shortest(0)", x.shortest(0), 0);
        CHECK.due("new: reversibles()", x.reversibles(), 0);
        CHECK.due("new: enter(0, 0, 1), M is 0", x.enter(0, 0, 1), false);
        CHECK.due("new: reversible(1, true), R is 1", x.reversible(1, true), false);
        CHECK.due("new: solve()", x.solve(), 1);
        CHECK.due("new: support(0) solved", x.support(0), 1);
        CHECK.due("new: rate(0, 0) solved", x.rate(0, 0), 1);
        CHECK.due("new: reversible(0, true)", x.reversible(0, true), true);
    }

    private static void promise2Size() {
        for (int m = 0; m <= 6; m++) {
            for (int r = 1; r <= 8; r++) {
                FluxModes x = Networks.full();
                x.solve();
                String call = "size(" + m + ", " + r + ")";
                CHECK.due(call, x.size(m, r), true);
                CHECK.due(call + " reversibles()", x.reversibles(), 0);
                CHECK.due(call + " modes()", x.modes(), 0);
                CHECK.due(call + " support(0)", x.support(0), 0);
                CHECK.due(call + " rate(0, 0)", x.rate(0, 0), 0);
                CHECK.due(call + " within(-1)", x.within(-1), 0);
                CHECK.due(call + " running(0, 0)", x.running(0, 0), 0);
                CHECK.due(call + " shortest(0)", x.shortest(0), 0);
                entriesAreZero(x, call);
                CHECK.due(call + " last reaction", x.reversible(r - 1, true), true);
                CHECK.due(call + " no reaction more", x.reversible(r, true), false);
                CHECK.due(call + " last entry", x.enter(m - 1, r - 1, 1), m > 0);
                CHECK.due(call + " no metabolite more", x.enter(m, r - 1, 1), false);
            }
        }
        FluxModes x = Networks.full();
        x.size(1, 1);
        x.size(6, 8);
        entriesAreZero(x, "made small and large again");
    }

    private static void promise2Refused() {
        FluxModes x = Networks.triangle();
        x.solve();
        int[][] bad = {{-1, 3}, {7, 3}, {1, 0}, {1, 9}, {1, -1}, {7, 9}, {-1, 0},
            {Integer.MIN_VALUE, 3}, {Integer.MAX_VALUE, 3}, {1, Integer.MIN_VALUE}, {1, Integer.MAX_VALUE}};
        for (int[] b : bad) {
            String call = "size(" + b[0] + ", " + b[1] + ")";
            CHECK.due(call, x.size(b[0], b[1]), false);
            CHECK.due(call + " modes()", x.modes(), 3);
            CHECK.due(call + " entry(0, 1)", x.entry(0, 1), -3);
            CHECK.due(call + " reversibles()", x.reversibles(), 4);
            CHECK.due(call + " reversible(2, true)", x.reversible(2, true), true);
            CHECK.due(call + " reversible(3, true)", x.reversible(3, true), false);
            CHECK.due(call + " enter(1, 0, 1)", x.enter(1, 0, 1), false);
        }
    }

    private static void promise3Enter() {
        FluxModes x = new FluxModes();
        x.size(6, 8);
        for (int i = 0; i < 6; i++) {
            for (int j = 0; j < 8; j++) {
                CHECK.due("enter(" + i + ", " + j + ")", x.enter(i, j, Networks.mark(i, j)), true);
            }
        }
        entriesAreMarked(x, "after all");
        for (int v = -9; v <= 9; v++) {
            CHECK.due("enter(3, 4, " + v + ")", x.enter(3, 4, v), true);
            CHECK.due("entry(3, 4) of " + v, x.entry(3, 4), v);
        }
    }

    private static void promise3Refused() {
        FluxModes x = Networks.full();
        int[] badValues = {-10, 10, 11, 256, Integer.MIN_VALUE, Integer.MAX_VALUE};
        for (int v : badValues) {
            CHECK.due("enter(0, 0, " + v + ")", x.enter(0, 0, v), false);
        }
        for (int odd : Networks.ODD) {
            CHECK.due("enter(" + odd + ", 0, 1)", x.enter(odd, 0, 1), false);
            CHECK.due("enter(0, " + odd + ", 1)", x.enter(0, odd, 1), false);
            CHECK.due("enter(" + odd + ", " + odd + ", 1)", x.enter(odd, odd, 1), false);
        }
        CHECK.due("enter(6, 0, 1)", x.enter(6, 0, 1), false);
        CHECK.due("enter(-1, 8, 1)", x.enter(-1, 8, 1), false);
        CHECK.due("enter(1, -8, 1)", x.enter(1, -8, 1), false);
        entriesAreMarked(x, "after refusals");
    }

    private static void promise4Entry() {
        FluxModes x = Networks.full();
        entriesAreMarked(x, "entry");
        for (int odd : Networks.ODD) {
            CHECK.due("entry(" + odd + ", 0)", x.entry(odd, 0), 0);
            CHECK.due("entry(0, " + odd + ")", x.entry(0, odd), 0);
            CHECK.due("entry(" + odd + ", " + odd + ")", x.entry(odd, odd), 0);
        }
        CHECK.due("entry(6, 0)", x.entry(6, 0), 0);
        CHECK.due("entry(-1, 8)", x.entry(-1, 8), 0);
        CHECK.due("entry(1, -8)", x.entry(1, -8), 0);
        FluxModes small = Networks.triangle();
        CHECK.due("entry(0, 2)", small.entry(0, 2), 4);
        CHECK.due("entry(0, 3)", small.entry(0, 3), 0);
        CHECK.due("entry(1, 0)", small.entry(1, 0), 0);
    }

    private static void promise5Reversible() {
        FluxModes x = new FluxModes();
        x.size(0, 8);
        for (int j = 0; j < 8; j++) {
            CHECK.due("reversible(" + j + ", true)", x.reversible(j, true), true);
            CHECK.due("reversibles() to " + j, x.reversibles(), (2 << j) - 1);
            CHECK.due("reversible(" + j + ", true) again", x.reversible(j, true), true);
            CHECK.due("reversibles() to " + j + " again", x.reversibles(), (2 << j) - 1);
        }
        CHECK.due("reversible(3, false)", x.reversible(3, false), true);
        CHECK.due("reversibles() less 3", x.reversibles(), 255 - 8);
        CHECK.due("reversible(3, false) again", x.reversible(3, false), true);
        CHECK.due("reversibles() less 3 still", x.reversibles(), 255 - 8);
    }

    private static void promise5Refused() {
        FluxModes x = Networks.triangle();
        for (int odd : Networks.ODD) {
            CHECK.due("reversible(" + odd + ", true)", x.reversible(odd, true), false);
            CHECK.due("reversible(" + odd + ", false)", x.reversible(odd, false), false);
        }
        CHECK.due("reversible(3, true)", x.reversible(3, true), false);
        CHECK.due("reversible(34, false), 34 is 2 in the low five bits", x.reversible(34, false), false);
        CHECK.due("reversibles() after refusals", x.reversibles(), 4);
    }

    private static void promise6Reversibles() {
        for (int set = 0; set < 256; set++) {
            FluxModes x = new FluxModes();
            x.size(2, 8);
            for (int j = 7; j >= 0; j--) {
                x.reversible(j, (set >> j & 1) != 0);
            }
            CHECK.due("reversibles()", x.reversibles(), set);
            x.solve();
            CHECK.due("reversibles() after solve()", x.reversibles(), set);
        }
    }

    private static void entriesAreMarked(FluxModes x, String when) {
        for (int i = 0; i < 6; i++) {
            for (int j = 0; j < 8; j++) {
                CHECK.due(when + ": entry(" + i + ", " + j + ")", x.entry(i, j), Networks.mark(i, j));
            }
        }
    }

    private static void entriesAreZero(FluxModes x, String when) {
        for (int i = 0; i < 6; i++) {
            for (int j = 0; j < 8; j++) {
                CHECK.due(when + ": entry(" + i + ", " + j + ")", x.entry(i, j), 0);
            }
        }
    }
}
