import java.util.List;

/** The boundary cases that the document names under 'What it is' and 'Terms', a test for each sentence. */
public final class EdgeTermsTest {
    private static final Check CHECK = new Check("EdgeTermsTest");
    private static final int CALLS = 512;
    /** size(), three entries, three reactions and solve(). */
    private static final int CALLS_OF_TRIANGLE = 8;

    public static void main(String[] args) {
        CHECK.sentence("at most 512 calls", EdgeTermsTest::last512Calls);
        CHECK.sentence("what later calls answer is free", EdgeTermsTest::callsPast512);
        CHECK.sentence("M 0 .. 6 and R 1 .. 8, counted from 0", EdgeTermsTest::metabolitesAndReactions);
        CHECK.sentence("an int from -9 to 9", EdgeTermsTest::entries);
        CHECK.sentence("never more than 70 listed modes", EdgeTermsTest::seventyModes);
        CHECK.sentence("rates between -200000000 and 200000000", EdgeTermsTest::greatestRates);
        CHECK.sentence("with M = 0 every single reaction", EdgeTermsTest::withoutMetabolites);
        CHECK.sentence("what changes later does not change it", EdgeTermsTest::changesLeaveTheList);
        CHECK.sentence("empty if there was no solve()", EdgeTermsTest::emptyWithoutSolve);
        CHECK.sentence("empty since the latest size() that was done", EdgeTermsTest::emptySinceSize);
        CHECK.sentence("a refused call changes nothing", EdgeTermsTest::refusedCalls);
        CHECK.end();
    }

    /** Each call as the 512th, behind calls that read, that are refused, and that solve. */
    private static void last512Calls() {
        for (Call before : List.of(Call.modes(), Call.size(7, 9), Call.solve())) {
            String when = "512th call, behind " + before.text();
            CHECK.due(when, afterMost(before), Call.size(6, 8), 1);
            CHECK.due(when, afterMost(before), Call.size(7, 8), 0);
            CHECK.due(when, afterMost(before), Call.enter(0, 2, -9), 1);
            CHECK.due(when, afterMost(before), Call.enter(0, 3, -9), 0);
            CHECK.due(when, afterMost(before), Call.entry(0, 2), 4);
            CHECK.due(when, afterMost(before), Call.reversible(2, false), 1);
            CHECK.due(when, afterMost(before), Call.reversible(3, false), 0);
            CHECK.due(when, afterMost(before), Call.reversibles(), 4);
            CHECK.due(when, afterMost(before), Call.solve(), 3);
            CHECK.due(when, afterMost(before), Call.modes(), 3);
            CHECK.due(when, afterMost(before), Call.support(2), 6);
            CHECK.due(when, afterMost(before), Call.rate(1, 2), -1);
            CHECK.due(when, afterMost(before), Call.within(-5), 1);
            CHECK.due(when, afterMost(before), Call.running(2, -1), 1);
            CHECK.due(when, afterMost(before), Call.shortest(0), 2);
        }
    }

    private static FluxModes afterMost(Call before) {
        FluxModes x = Networks.solved(Networks.triangle());
        for (int n = CALLS_OF_TRIANGLE; n < CALLS - 1; n++) {
            before.on(x);
        }
        return x;
    }

    /** Their answers are free, but none may throw: the test would end there. */
    private static void callsPast512() {
        FluxModes x = afterMost(Call.solve());
        for (Call call : new State("past", 1, 3, () -> x).refused()) {
            call.on(x);
            x.size(6, 8);
            x.enter(5, 7, 9);
            x.reversible(7, true);
            x.solve();
            x.within(-1);
        }
        CHECK.due("a new object's solve()", new FluxModes().solve(), 1);
    }

    private static void metabolitesAndReactions() {
        for (int m = 0; m <= 6; m++) {
            for (int r = 1; r <= 8; r++) {
                FluxModes x = new FluxModes();
                String when = "M = " + m + ", R = " + r;
                CHECK.due(when, x, Call.size(m, r), 1);
                for (int i = -1; i <= 6; i++) {
                    CHECK.due(when, x, Call.enter(i, 0, 9), i >= 0 && i < m ? 1 : 0);
                }
                for (int j = -1; j <= 8; j++) {
                    boolean is = j >= 0 && j < r;
                    CHECK.due(when, x, Call.enter(m - 1, j, 9), is && m > 0 ? 1 : 0);
                    CHECK.due(when, x, Call.reversible(j, true), is ? 1 : 0);
                }
                CHECK.due(when, x, Call.reversibles(), (1 << r) - 1);
            }
        }
        FluxModes x = new FluxModes();
        CHECK.due(x, Call.size(-1, 1), 0);
        CHECK.due(x, Call.size(7, 1), 0);
        CHECK.due(x, Call.size(0, 0), 0);
        CHECK.due(x, Call.size(0, 9), 0);
    }

    /** The ends are held at every place, and they count when it is solved. */
    private static void entries() {
        for (int v : new int[] {-9, 9}) {
            FluxModes x = new FluxModes();
            x.size(6, 8);
            for (int i = 0; i < 6; i++) {
                for (int j = 0; j < 8; j++) {
                    CHECK.due(x, Call.enter(i, j, v), 1);
                    CHECK.due(x, Call.enter(i, j, v < 0 ? -10 : 10), 0);
                    CHECK.due(x, Call.entry(i, j), v);
                }
            }
        }
        FluxModes x = Networks.of(new int[][] {{-9, 9, 8}}, 0);
        CHECK.due(x, Call.solve(), 2);
        CHECK.due(x, Call.rate(0, 0), 1);
        CHECK.due(x, Call.rate(0, 1), 1);
        CHECK.due(x, Call.rate(1, 0), 8);
        CHECK.due(x, Call.rate(1, 2), 9);
    }

    private static void seventyModes() {
        FluxModes x = Networks.seventy();
        CHECK.due(x, Call.solve(), 70);
        CHECK.due(x, Call.modes(), 70);
        for (int k = 0; k < 70; k++) {
            CHECK.due("support(" + k + ") has four", Integer.bitCount(x.support(k)), 4);
        }
        CHECK.due(x, Call.support(70), 0);
        CHECK.due(x, Call.solve(), 70);
        CHECK.due(x, Call.modes(), 70);
        // One reaction that runs forward only turns modes round, and takes none away.
        CHECK.due(x, Call.rate(69, 7), -2);
        x.reversible(7, false);
        CHECK.due(x, Call.solve(), 70);
        CHECK.due(x, Call.rate(69, 7), 2);
    }

    /** Determinants of six columns near the greatest that entries up to 9 have; none is cut to an int too early. */
    private static void greatestRates() {
        FluxModes x = Networks.large();
        CHECK.due(x, Call.solve(), 1);
        CHECK.due(x, Call.rate(0, 0), 80458119);
        x.reversible(3, false);
        CHECK.due(x, Call.solve(), 1);
        CHECK.due(x, Call.rate(0, 0), -80458119);
        FluxModes chain = Networks.chain();
        CHECK.due(chain, Call.solve(), 1);
        int[] want = {262144, 294912, 331776, 373248, 419904, 472392, 531441};
        for (int j = 0; j < 7; j++) {
            CHECK.due(chain, Call.rate(0, j), want[j]);
        }
    }

    private static void withoutMetabolites() {
        for (int r = 1; r <= 8; r++) {
            for (int reversibles = 0; reversibles < 1 << r; reversibles++) {
                FluxModes x = new FluxModes();
                Networks.put(x, new int[0][0], r, reversibles);
                singles(x, r);
            }
        }
    }

    private static void singles(FluxModes x, int r) {
        String when = "M = 0, R = " + r;
        CHECK.due(when, x, Call.solve(), r);
        for (int k = 0; k <= 8; k++) {
            CHECK.due(when, x, Call.support(k), k < r ? 1 << k : 0);
            CHECK.due(when, x, Call.rate(k, k), k < r ? 1 : 0);
            CHECK.due(when, x, Call.shortest(k), k < r ? 1 : 0);
            CHECK.due(when, x, Call.running(k, 1), k < r ? 1 : 0);
            CHECK.due(when, x, Call.running(k, -1), 0);
        }
    }

    private static void changesLeaveTheList() {
        FluxModes x = State.changedSince();
        triangleIsListed(x);
        CHECK.due(x, Call.reversibles(), 1);
        CHECK.due(x, Call.solve(), 2);
        CHECK.due(x, Call.support(0), 2);
        CHECK.due(x, Call.support(1), 5);
        CHECK.due(x, Call.rate(1, 0), 2);
        CHECK.due(x, Call.support(2), 0);
        // The longest list, with no entry left of what was solved.
        x = Networks.solved(Networks.seventy());
        for (int j = 0; j < 8; j++) {
            for (int i = 0; i < 3; i++) {
                x.enter(i, j, -9);
            }
            x.reversible(j, false);
        }
        CHECK.due(x, Call.modes(), 70);
        CHECK.due(x, Call.within(-1), 70);
        for (int j = 0; j < 8; j++) {
            CHECK.due(x, Call.running(j, 0), 35);
            CHECK.due(x, Call.shortest(j), 4);
        }
        CHECK.due(x, Call.solve(), 0);
        CHECK.due(x, Call.modes(), 0);
    }

    private static void triangleIsListed(FluxModes x) {
        int[] supports = {3, 5, 6};
        int[][] rates = {{3, 2, 0}, {2, 0, -1}, {0, 4, 3}};
        CHECK.due(x, Call.modes(), 3);
        for (int k = 0; k < 3; k++) {
            CHECK.due(x, Call.support(k), supports[k]);
            CHECK.due(x, Call.within(supports[k]), 1);
            CHECK.due(x, Call.shortest(k), 2);
            CHECK.due(x, Call.running(k, 0), 2);
            for (int j = 0; j < 3; j++) {
                CHECK.due(x, Call.rate(k, j), rates[k][j]);
            }
        }
    }

    private static void emptyWithoutSolve() {
        listIsEmpty("new", new FluxModes());
        listIsEmpty("full, not solved", Networks.full());
        listIsEmpty("seventy, not solved", Networks.seventy());
        FluxModes x = new FluxModes();
        x.size(7, 9);
        x.reversible(0, true);
        listIsEmpty("new, changed", x);
    }

    private static void emptySinceSize() {
        int[][] sizes = {{0, 1}, {1, 3}, {3, 8}, {6, 8}, {6, 1}, {0, 8}};
        for (int[] size : sizes) {
            FluxModes x = Networks.solved(Networks.seventy());
            CHECK.due(x, Call.size(size[0], size[1]), 1);
            listIsEmpty("sized to " + size[0] + ", " + size[1], x);
        }
        // One that is refused leaves the list, and the latest that was done counts.
        FluxModes x = Networks.solved(Networks.triangle());
        CHECK.due(x, Call.size(7, 3), 0);
        CHECK.due(x, Call.size(1, 9), 0);
        triangleIsListed(x);
        CHECK.due(x, Call.size(0, 2), 1);
        listIsEmpty("sized", x);
        CHECK.due(x, Call.solve(), 2);
        CHECK.due(x, Call.size(0, 2), 1);
        CHECK.due(x, Call.size(0, 9), 0);
        listIsEmpty("sized, solved, sized", x);
    }

    private static void listIsEmpty(String when, FluxModes x) {
        CHECK.due(when, x, Call.modes(), 0);
        CHECK.due(when, x, Call.within(-1), 0);
        for (int j = 0; j < 8; j++) {
            CHECK.due(when, x, Call.support(j), 0);
            CHECK.due(when, x, Call.rate(0, j), 0);
            CHECK.due(when, x, Call.running(j, 0), 0);
            CHECK.due(when, x, Call.shortest(j), 0);
        }
    }

    /** In each state, each call that is refused: its answer, and that all later answers are as without it. */
    private static void refusedCalls() {
        for (State state : State.all()) {
            Shown before = new Shown(state.made());
            for (Call call : state.refused()) {
                String when = state.name() + ": " + call.text();
                CHECK.due(when, call.on(state.made().get()), 0);
                new Shown(() -> {
                    FluxModes x = state.made().get();
                    call.on(x);
                    return x;
                }).same(CHECK, when, before);
            }
        }
    }
}
