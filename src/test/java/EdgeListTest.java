/** The boundary cases that promises 7 to 13 name, a test for each sentence. */
public final class EdgeListTest {
    private static final Check CHECK = new Check("EdgeListTest");

    public static void main(String[] args) {
        CHECK.sentence("promise 7: the modes of the network as it is now", EdgeListTest::solvesAsItIsNow);
        CHECK.sentence("promise 7: how many", EdgeListTest::solvesNoneAndMost);
        CHECK.sentence("promise 8: how many modes are listed", EdgeListTest::modes);
        CHECK.sentence("promise 9: 0 if there is none", EdgeListTest::noSupport);
        CHECK.sentence("promise 10: 0 if there is no such mode", EdgeListTest::noModeToRate);
        CHECK.sentence("promise 10: or j is not 0 .. 7", EdgeListTest::noReactionToRate);
        CHECK.sentence("promise 10: or the network that was solved had no reaction j",
            EdgeListTest::reactionNotSolved);
        CHECK.sentence("promise 11: all of its 32 bits count", EdgeListTest::allBits);
        CHECK.sentence("promise 11: bits that are no reaction mean nothing", EdgeListTest::bitsOfNoReaction);
        CHECK.sentence("promise 12: or not 0 (another how)", EdgeListTest::anotherHow);
        CHECK.sentence("promise 12: 0 if j is not 0 .. 7", EdgeListTest::noReactionToRun);
        CHECK.sentence("promise 13: 0 if there is none", EdgeListTest::noneToBeShortest);
        CHECK.sentence("promise 13: or j is not 0 .. 7", EdgeListTest::noReactionToBeShortest);
        CHECK.sentence("promise 13: the least number", EdgeListTest::shortestFromOneToSeven);
        CHECK.end();
    }

    /** Not as it was at the solve() before, nor as a refused call would have it. */
    private static void solvesAsItIsNow() {
        FluxModes x = Networks.triangle();
        CHECK.due(x, Call.solve(), 3);
        x.enter(0, 0, 10);
        x.reversible(3, true);
        x.size(0, 9);
        CHECK.due("after refusals", x, Call.solve(), 3);
        x.reversible(2, false);
        CHECK.due(x, Call.modes(), 3);
        CHECK.due(x, Call.solve(), 2);
        CHECK.due(x, Call.support(1), 6);
        x.enter(0, 1, 3);
        CHECK.due(x, Call.modes(), 2);
        CHECK.due(x, Call.solve(), 0);
        CHECK.due("of the list before", x, Call.support(0), 0);
        x.enter(0, 0, 0);
        CHECK.due(x, Call.solve(), 1);
        CHECK.due(x, Call.support(0), 1);
        x.size(6, 8);
        CHECK.due("all entries 0", x, Call.solve(), 8);
        for (int k = 0; k < 8; k++) {
            CHECK.due("all entries 0", x, Call.rate(k, k), 1);
        }
        emptyRowsAndColumns();
    }

    /** Metabolites that no reaction touches, and a reaction that touches none, whichever stands first. */
    private static void emptyRowsAndColumns() {
        int[][][] networks = {
            {{0, 0, 0}, {0, 2, -3}},
            {{0, 2, -3}, {0, 0, 0}},
            {{0, 0, 0}, {0, 0, 0}, {0, 4, -6}, {0, 0, 0}, {0, -2, 3}, {0, 0, 0}}};
        for (int[][] rows : networks) {
            FluxModes x = Networks.of(rows, 1);
            CHECK.due(x, Call.solve(), 2);
            CHECK.due(x, Call.support(0), 1);
            CHECK.due(x, Call.rate(0, 0), 1);
            CHECK.due(x, Call.support(1), 6);
            CHECK.due(x, Call.rate(1, 1), 3);
            CHECK.due(x, Call.rate(1, 2), 2);
        }
    }

    private static void solvesNoneAndMost() {
        for (int r = 1; r <= 6; r++) {
            FluxModes x = new FluxModes();
            x.size(6, r);
            for (int j = 0; j < r; j++) {
                x.enter(j, j, 9);
                x.reversible(j, true);
            }
            CHECK.due("free columns, R = " + r, x, Call.solve(), 0);
            CHECK.due("free columns, R = " + r, x, Call.modes(), 0);
        }
        CHECK.due("M = 0, R = 1", new FluxModes(), Call.solve(), 1);
        CHECK.due("M = 6, R = 7", Networks.chain(), Call.solve(), 1);
        CHECK.due("all make, none takes", Networks.of(new int[][] {{9, 9, 9, 9, 9, 9, 9, 9}}, 0), Call.solve(), 0);
        CHECK.due("all make, one may take", Networks.of(new int[][] {{9, 9, 9, 9, 9, 9, 9, 9}}, 128), Call.solve(), 7);
        FluxModes most = Networks.seventy();
        for (int n = 0; n < 100; n++) {
            CHECK.due("most", most, Call.solve(), 70);
        }
    }

    private static void modes() {
        for (State state : State.withEmptyList()) {
            CHECK.due(state.name(), state.made().get(), Call.modes(), 0);
        }
        FluxModes x = Networks.solved(Networks.seventy());
        CHECK.due("most", x, Call.modes(), 70);
        x.size(3, 9);
        x.enter(3, 0, 1);
        x.enter(0, 0, -10);
        x.reversible(8, false);
        CHECK.due("most, after refusals", x, Call.modes(), 70);
        x.enter(0, 0, 0);
        x.reversible(0, false);
        CHECK.due("most, after changes", x, Call.modes(), 70);
    }

    private static void noSupport() {
        for (State state : State.withEmptyList()) {
            FluxModes x = state.made().get();
            CHECK.due(state.name(), x, Call.support(0), 0);
            CHECK.due(state.name(), x, Call.support(1), 0);
            for (int k : Numbers.outside(0, 69)) {
                CHECK.due(state.name(), x, Call.support(k), 0);
            }
        }
        FluxModes x = Networks.solved(Networks.triangle());
        CHECK.due(x, Call.support(0), 3);
        CHECK.due(x, Call.support(2), 6);
        for (int k : Numbers.outside(0, 2)) {
            CHECK.due(x, Call.support(k), 0);
        }
        FluxModes most = Networks.solved(Networks.seventy());
        CHECK.due(most, Call.support(0), 15);
        CHECK.due(most, Call.support(69), 240);
        for (int k : Numbers.outside(0, 69)) {
            CHECK.due(most, Call.support(k), 0);
        }
        most.size(0, 3);
        most.solve();
        CHECK.due("a shorter list", most, Call.support(2), 4);
        CHECK.due("a shorter list", most, Call.support(3), 0);
    }

    private static void noModeToRate() {
        for (State state : State.withEmptyList()) {
            FluxModes x = state.made().get();
            for (int j = 0; j < 8; j++) {
                CHECK.due(state.name(), x, Call.rate(0, j), 0);
                CHECK.due(state.name(), x, Call.rate(-1, j), 0);
                CHECK.due(state.name(), x, Call.rate(70, j), 0);
            }
        }
        FluxModes x = Networks.solved(Networks.triangle());
        CHECK.due(x, Call.rate(0, 0), 3);
        CHECK.due(x, Call.rate(2, 2), 3);
        for (int k : Numbers.outside(0, 2)) {
            CHECK.due(x, Call.rate(k, 0), 0);
            CHECK.due(x, Call.rate(k, 1), 0);
        }
        FluxModes most = Networks.solved(Networks.seventy());
        CHECK.due(most, Call.rate(0, 0), 1);
        CHECK.due(most, Call.rate(69, 7), -2);
        for (int k : Numbers.outside(0, 69)) {
            for (int j = -8; j < 8; j += 5) {
                CHECK.due(most, Call.rate(k, j), 0);
            }
        }
    }

    /** In rows of eight, most of these stand where another rate does. */
    private static void noReactionToRate() {
        FluxModes most = Networks.solved(Networks.seventy());
        for (int j : Numbers.outside(0, 7)) {
            CHECK.due(most, Call.rate(0, j), 0);
            CHECK.due(most, Call.rate(1, j), 0);
            CHECK.due(most, Call.rate(69, j), 0);
            CHECK.due(most, Call.rate(j, j), 0);
        }
        FluxModes x = new FluxModes();
        x.solve();
        CHECK.due("R = 1", x, Call.rate(0, 0), 1);
        for (int j : Numbers.outside(0, 7)) {
            CHECK.due("R = 1", x, Call.rate(0, j), 0);
        }
    }

    /** The list of a larger network stood in the same places before. */
    private static void reactionNotSolved() {
        for (int r = 1; r <= 8; r++) {
            FluxModes x = Networks.solved(Networks.seventy());
            x.size(0, r);
            x.solve();
            for (int k = 0; k < r; k++) {
                for (int j = 0; j < 8; j++) {
                    CHECK.due("R = " + r, x, Call.rate(k, j), j == k ? 1 : 0);
                }
            }
            CHECK.due("R = " + r, x, Call.rate(r, r), 0);
        }
    }

    private static void allBits() {
        for (State state : State.withEmptyList()) {
            FluxModes x = state.made().get();
            for (int set : new int[] {0, -1, 255, Integer.MIN_VALUE, Integer.MAX_VALUE}) {
                CHECK.due(state.name(), x, Call.within(set), 0);
            }
        }
        // Any four of the eight reactions are a support.
        FluxModes most = Networks.solved(Networks.seventy());
        for (int set = 0; set < 256; set++) {
            CHECK.due(most, Call.within(set), Numbers.choose(Integer.bitCount(set), 4));
        }
        for (int bit = 0; bit < 32; bit++) {
            CHECK.due(most, Call.within(1 << bit), 0);
            CHECK.due(most, Call.within(~(1 << bit)), bit < 8 ? 35 : 70);
        }
        CHECK.due(most, Call.within(-1), 70);
        CHECK.due(most, Call.within(Integer.MAX_VALUE), 70);
        CHECK.due(most, Call.within(Integer.MIN_VALUE), 0);
    }

    private static void bitsOfNoReaction() {
        FluxModes x = Networks.solved(Networks.triangle());
        int[] want = {0, 0, 0, 1, 0, 1, 1, 3};
        for (int set = 0; set < 8; set++) {
            for (int bit = 3; bit < 32; bit++) {
                CHECK.due(x, Call.within(set | 1 << bit), want[set]);
            }
            CHECK.due(x, Call.within(set | -8), want[set]);
        }
        FluxModes most = Networks.solved(Networks.seventy());
        for (int set = 0; set < 256; set++) {
            CHECK.due(most, Call.within(set | -256), Numbers.choose(Integer.bitCount(set), 4));
        }
    }

    private static void anotherHow() {
        FluxModes x = Networks.solved(Networks.triangle());
        int[] others = {0, 2, -2, 3, 255, -255, 257, 65537, Integer.MIN_VALUE, Integer.MIN_VALUE + 1,
            Integer.MAX_VALUE - 1, Integer.MAX_VALUE};
        for (int how : others) {
            for (int j = 0; j < 8; j++) {
                CHECK.due(x, Call.running(j, how), j < 3 ? 2 : 0);
            }
        }
        CHECK.due(x, Call.running(2, 1), 1);
        CHECK.due(x, Call.running(2, -1), 1);
        CHECK.due(x, Call.running(0, -1), 0);
        // Among four reactions the rates change sign from each to the next, and the least is positive.
        FluxModes most = Networks.solved(Networks.seventy());
        for (int j = 0; j < 8; j++) {
            int first = Numbers.choose(7 - j, 3);
            int third = Numbers.choose(j, 2) * Numbers.choose(7 - j, 1);
            CHECK.due(most, Call.running(j, 1), first + third);
            CHECK.due(most, Call.running(j, -1), 35 - first - third);
            for (int how : others) {
                CHECK.due(most, Call.running(j, how), 35);
            }
        }
    }

    private static void noReactionToRun() {
        for (State state : State.withEmptyList()) {
            noneRuns(state.name(), state.made().get(), 0, 7);
            noneRuns(state.name(), state.made().get(), 8, 15);
        }
        FluxModes most = Networks.solved(Networks.seventy());
        for (int j : Numbers.outside(0, 7)) {
            noneRuns("most", most, j, j);
        }
        CHECK.due(most, Call.running(7, 0), 35);
        CHECK.due(most, Call.running(0, 0), 35);
        FluxModes small = Networks.solved(new FluxModes());
        CHECK.due("R = 1", small, Call.running(0, 1), 1);
        noneRuns("R = 1", small, 1, 7);
    }

    private static void noneRuns(String when, FluxModes x, int from, int to) {
        // As a long, so that the greatest int has an end behind it.
        for (long j = from; j <= to; j++) {
            for (int how = -1; how <= 1; how++) {
                CHECK.due(when, x, Call.running((int) j, how), 0);
            }
        }
    }

    private static void noneToBeShortest() {
        for (State state : State.withEmptyList()) {
            FluxModes x = state.made().get();
            for (int j = 0; j < 8; j++) {
                CHECK.due(state.name(), x, Call.shortest(j), 0);
            }
        }
        // Reaction 2 of four is in no mode, though others are listed.
        FluxModes x = Networks.solved(Networks.of(new int[][] {{1, -1, 0, -1}, {0, 0, 9, 0}}, 15));
        int[] want = {2, 2, 0, 2, 0, 0, 0, 0};
        for (int j = 0; j < 8; j++) {
            CHECK.due(x, Call.shortest(j), want[j]);
        }
    }

    private static void noReactionToBeShortest() {
        FluxModes most = Networks.solved(Networks.seventy());
        for (int j : Numbers.outside(0, 7)) {
            CHECK.due(most, Call.shortest(j), 0);
        }
        CHECK.due(most, Call.shortest(32), 0);
        CHECK.due(most, Call.shortest(0), 4);
        CHECK.due(most, Call.shortest(7), 4);
        FluxModes small = Networks.solved(new FluxModes());
        CHECK.due("R = 1", small, Call.shortest(0), 1);
        CHECK.due("R = 1", small, Call.shortest(1), 0);
        CHECK.due("R = 1", small, Call.shortest(7), 0);
        CHECK.due("R = 1", small, Call.shortest(8), 0);
    }

    /** A mode has at most a reaction more than there are metabolites. */
    private static void shortestFromOneToSeven() {
        for (int length = 1; length <= 7; length++) {
            FluxModes x = new FluxModes();
            x.size(length - 1, 8);
            for (int i = 0; i < length - 1; i++) {
                x.enter(i, i, 1);
                x.enter(i, i + 1, -1);
            }
            x.solve();
            for (int j = 0; j < 8; j++) {
                CHECK.due("length " + length, x, Call.shortest(j), j < length ? length : 1);
            }
        }
        // Reaction 0 has a mode of two before one of three, and reaction 3 one of three before one of two.
        FluxModes x = Networks.solved(Networks.of(new int[][] {{1, -1, -1, 0, 0}, {0, 0, 1, -1, 1}}, 0));
        int[] want = {2, 2, 3, 2, 2, 0, 0, 0};
        CHECK.due(x, Call.modes(), 3);
        for (int j = 0; j < 8; j++) {
            CHECK.due("branches", x, Call.shortest(j), want[j]);
        }
    }
}
