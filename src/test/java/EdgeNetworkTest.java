/** The boundary cases that promises 1 to 6 name, a test for each sentence. */
public final class EdgeNetworkTest {
    private static final Check CHECK = new Check("EdgeNetworkTest");

    public static void main(String[] args) {
        CHECK.sentence("promise 1: M = 0, R = 1, not reversible, the list is empty", EdgeNetworkTest::newObject);
        CHECK.sentence("promise 2: m (0 .. 6), r (1 .. 8)", EdgeNetworkTest::sizesDone);
        CHECK.sentence("promise 2: all entries 0, no reaction is reversible, the list is empty",
            EdgeNetworkTest::sizeClears);
        CHECK.sentence("promise 2: false if refused", EdgeNetworkTest::sizesRefused);
        CHECK.sentence("promise 3: v (-9 .. 9)", EdgeNetworkTest::entersDone);
        CHECK.sentence("promise 3: false if refused", EdgeNetworkTest::entersRefused);
        CHECK.sentence("promise 4: 0 if there is none", EdgeNetworkTest::noEntry);
        CHECK.sentence("promise 5: reaction j (0 .. R - 1)", EdgeNetworkTest::reversiblesDone);
        CHECK.sentence("promise 5: false if refused", EdgeNetworkTest::reversiblesRefused);
        CHECK.sentence("promise 6: the set of reversible reactions", EdgeNetworkTest::emptyAndFullSet);
        CHECK.end();
    }

    private static void newObject() {
        FluxModes x = new FluxModes();
        CHECK.due(x, Call.modes(), 0);
        CHECK.due(x, Call.support(0), 0);
        CHECK.due(x, Call.rate(0, 0), 0);
        CHECK.due(x, Call.within(-1), 0);
        CHECK.due(x, Call.running(0, 1), 0);
        CHECK.due(x, Call.shortest(0), 0);
        CHECK.due(x, Call.reversibles(), 0);
        CHECK.due(x, Call.entry(0, 0), 0);
        CHECK.due(x, Call.enter(0, 0, 0), 0);
        CHECK.due(x, Call.enter(-1, 0, 0), 0);
        CHECK.due(x, Call.reversible(-1, true), 0);
        CHECK.due(x, Call.reversible(1, true), 0);
        CHECK.due(x, Call.solve(), 1);
        CHECK.due(x, Call.support(0), 1);
        CHECK.due(x, Call.rate(0, 0), 1);
        CHECK.due(x, Call.reversible(0, true), 1);
        CHECK.due(x, Call.reversibles(), 1);
        CHECK.due(new FluxModes(), Call.reversibles(), 0);
    }

    /** Each allowed size, looked at by what stands at its far corner. */
    private static void sizesDone() {
        for (int m = 0; m <= 6; m++) {
            for (int r = 1; r <= 8; r++) {
                FluxModes x = Networks.full();
                CHECK.due(x, Call.size(m, r), 1);
                corner(x, m, r);
            }
        }
    }

    private static void corner(FluxModes x, int m, int r) {
        String when = "M = " + m + ", R = " + r;
        CHECK.due(when, x, Call.enter(m - 1, r - 1, 9), m > 0 ? 1 : 0);
        CHECK.due(when, x, Call.entry(m - 1, r - 1), m > 0 ? 9 : 0);
        CHECK.due(when, x, Call.enter(m, r - 1, 9), 0);
        CHECK.due(when, x, Call.enter(m - 1, r, 9), 0);
        CHECK.due(when, x, Call.reversible(r - 1, true), 1);
        CHECK.due(when, x, Call.reversible(r, true), 0);
        CHECK.due(when, x, Call.reversibles(), 1 << r - 1);
    }

    /** To the same size, to the least and back, and from a full list. */
    private static void sizeClears() {
        int[][][] ways = {{{6, 8}}, {{0, 1}, {6, 8}}, {{6, 1}, {6, 8}}, {{0, 8}, {6, 8}}};
        for (int[][] way : ways) {
            FluxModes x = Networks.solved(Networks.full());
            for (int[] size : way) {
                CHECK.due(x, Call.size(size[0], size[1]), 1);
            }
            CHECK.due(x, Call.reversibles(), 0);
            CHECK.due(x, Call.modes(), 0);
            for (int i = 0; i < 6; i++) {
                for (int j = 0; j < 8; j++) {
                    CHECK.due(x, Call.entry(i, j), 0);
                }
            }
            CHECK.due("all entries 0", x, Call.solve(), 8);
        }
        FluxModes x = Networks.solved(Networks.seventy());
        CHECK.due(x, Call.size(3, 8), 1);
        CHECK.due(x, Call.modes(), 0);
        CHECK.due(x, Call.support(69), 0);
        CHECK.due(x, Call.rate(69, 7), 0);
    }

    private static void sizesRefused() {
        FluxModes x = Networks.solved(Networks.seventy());
        for (int m : Numbers.outside(0, 6)) {
            CHECK.due(x, Call.size(m, 1), 0);
            CHECK.due(x, Call.size(m, 8), 0);
        }
        for (int r : Numbers.outside(1, 8)) {
            CHECK.due(x, Call.size(0, r), 0);
            CHECK.due(x, Call.size(6, r), 0);
            CHECK.due(x, Call.size(r, r), 0);
        }
        CHECK.due(x, Call.modes(), 70);
        CHECK.due(x, Call.reversibles(), 255);
        CHECK.due(x, Call.entry(2, 0), 9);
        CHECK.due(x, Call.enter(3, 0, 1), 0);
        CHECK.due(x, Call.enter(2, 7, 1), 1);
        CHECK.due(x, Call.reversible(8, true), 0);
    }

    private static void entersDone() {
        int[][] sizes = {{1, 1}, {1, 8}, {6, 1}, {6, 8}, {3, 5}};
        for (int[] size : sizes) {
            FluxModes x = new FluxModes();
            x.size(size[0], size[1]);
            for (int v : new int[] {-9, -8, -1, 0, 1, 8, 9}) {
                CHECK.due(x, Call.enter(0, 0, v), 1);
                CHECK.due(x, Call.entry(0, 0), v);
                CHECK.due(x, Call.enter(size[0] - 1, size[1] - 1, -v), 1);
                CHECK.due(x, Call.entry(size[0] - 1, size[1] - 1), -v);
            }
        }
    }

    private static void entersRefused() {
        FluxModes x = Networks.full();
        for (int v : Numbers.outside(-9, 9)) {
            CHECK.due(x, Call.enter(0, 0, v), 0);
            CHECK.due(x, Call.enter(5, 7, v), 0);
        }
        for (int i : Numbers.outside(0, 5)) {
            CHECK.due(x, Call.enter(i, 0, 1), 0);
            CHECK.due(x, Call.enter(i, 7, 1), 0);
            CHECK.due(x, Call.enter(i, -8, 1), 0);
        }
        for (int j : Numbers.outside(0, 7)) {
            CHECK.due(x, Call.enter(0, j, 1), 0);
            CHECK.due(x, Call.enter(5, j, 1), 0);
            CHECK.due(x, Call.enter(j, j, 1), 0);
        }
        for (int i = 0; i < 6; i++) {
            for (int j = 0; j < 8; j++) {
                CHECK.due(x, Call.entry(i, j), Networks.mark(i, j));
            }
        }
        smallRefusesWhatLargeTakes();
    }

    private static void smallRefusesWhatLargeTakes() {
        FluxModes x = Networks.triangle();
        CHECK.due(x, Call.enter(0, 2, 9), 1);
        CHECK.due(x, Call.enter(0, 3, 9), 0);
        CHECK.due(x, Call.enter(1, 2, 9), 0);
        CHECK.due(x, Call.enter(0, 7, 9), 0);
        CHECK.due(x, Call.enter(5, 0, 9), 0);
        x.size(0, 8);
        CHECK.due("M = 0", x, Call.enter(0, 0, 9), 0);
        CHECK.due("M = 0", x, Call.enter(0, 7, 0), 0);
    }

    private static void noEntry() {
        FluxModes x = Networks.full();
        for (int i : Numbers.outside(0, 5)) {
            CHECK.due(x, Call.entry(i, 0), 0);
            CHECK.due(x, Call.entry(i, 7), 0);
            CHECK.due(x, Call.entry(i, 8), 0);
        }
        for (int j : Numbers.outside(0, 7)) {
            CHECK.due(x, Call.entry(0, j), 0);
            CHECK.due(x, Call.entry(5, j), 0);
            CHECK.due(x, Call.entry(1, j), 0);
        }
        CHECK.due(x, Call.entry(0, 0), Networks.mark(0, 0));
        CHECK.due(x, Call.entry(5, 7), Networks.mark(5, 7));
        FluxModes small = Networks.triangle();
        CHECK.due(small, Call.entry(0, 2), 4);
        CHECK.due(small, Call.entry(0, 3), 0);
        CHECK.due(small, Call.entry(1, 2), 0);
        CHECK.due(new FluxModes(), Call.entry(0, 0), 0);
    }

    private static void reversiblesDone() {
        for (int r = 1; r <= 8; r++) {
            FluxModes x = new FluxModes();
            x.size(0, r);
            CHECK.due(x, Call.reversible(r - 1, true), 1);
            CHECK.due(x, Call.reversibles(), 1 << r - 1);
            CHECK.due(x, Call.reversible(0, true), 1);
            CHECK.due(x, Call.reversibles(), 1 << r - 1 | 1);
            CHECK.due("already so", x, Call.reversible(0, true), 1);
            CHECK.due(x, Call.reversibles(), 1 << r - 1 | 1);
            CHECK.due("not any more", x, Call.reversible(r - 1, false), 1);
            CHECK.due(x, Call.reversibles(), r == 1 ? 0 : 1);
            CHECK.due("not any more, already", x, Call.reversible(r - 1, false), 1);
            CHECK.due(x, Call.reversibles(), r == 1 ? 0 : 1);
        }
    }

    private static void reversiblesRefused() {
        for (int r = 1; r <= 8; r++) {
            FluxModes x = new FluxModes();
            x.size(2, r);
            x.reversible(0, true);
            for (int j : Numbers.outside(0, r - 1)) {
                CHECK.due("R = " + r, x, Call.reversible(j, true), 0);
                CHECK.due("R = " + r, x, Call.reversible(j, false), 0);
            }
            CHECK.due("R = " + r, x, Call.reversible(32, false), 0);
            CHECK.due("R = " + r, x, Call.reversibles(), 1);
        }
    }

    private static void emptyAndFullSet() {
        for (int r = 1; r <= 8; r++) {
            FluxModes x = new FluxModes();
            x.size(6, r);
            CHECK.due("R = " + r, x, Call.reversibles(), 0);
            for (int j = 0; j < r; j++) {
                x.reversible(j, true);
            }
            CHECK.due("R = " + r, x, Call.reversibles(), (1 << r) - 1);
            x.reversible(r, true);
            x.solve();
            CHECK.due("R = " + r + ", solved", x, Call.reversibles(), (1 << r) - 1);
            x.size(7, r);
            CHECK.due("R = " + r + ", size refused", x, Call.reversibles(), (1 << r) - 1);
            x.size(6, r);
            CHECK.due("R = " + r + ", sized", x, Call.reversibles(), 0);
        }
    }
}
