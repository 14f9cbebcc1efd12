/** Promises 7 to 13: solving, and what the list answers. */
public final class ListTest {
    private static final Check CHECK = new Check("ListTest");

    public static void main(String[] args) {
        promise7Solve();
        promise7WithoutMetabolites();
        promise7WithoutModes();
        promise7Directions();
        promise7Most();
        promise7LargeRates();
        promise8Modes();
        promise9Support();
        promise10Rate();
        promise11Within();
        promise12Running();
        promise13Shortest();
        theListStays();
        theListIsEmpty();
        CHECK.end();
    }

    private static void promise7Solve() {
        FluxModes x = Networks.triangle();
        CHECK.due("triangle: solve()", x.solve(), 3);
        isMode(x, 0, 3, 3, 2, 0);
        isMode(x, 1, 5, 2, 0, -1);
        isMode(x, 2, 6, 0, 4, 3);
        x.reversible(2, false);
        CHECK.due("triangle one way: solve()", x.solve(), 2);
        isMode(x, 0, 3, 3, 2, 0);
        isMode(x, 1, 6, 0, 4, 3);

        // A reaction that moves nothing is a mode alone, and part of no other.
        FluxModes idle = Networks.of(new int[][] {{1, 0, -1}, {2, 0, -2}}, 0);
        CHECK.due("idle: solve()", idle.solve(), 2);
        isMode(idle, 0, 2, 0, 1, 0);
        isMode(idle, 1, 5, 1, 0, 1);

        // The balance of all four leaves one flow, but it does not use the last.
        FluxModes chain = Networks.of(new int[][] {{1, -1, 0, 0}, {0, 3, -6, 0}, {0, 0, 0, 5}}, 0);
        CHECK.due("chain: solve()", chain.solve(), 1);
        isMode(chain, 0, 7, 2, 2, 1, 0);
    }

    private static void promise7WithoutMetabolites() {
        for (int r = 1; r <= 8; r++) {
            FluxModes x = new FluxModes();
            x.size(0, r);
            x.reversible(r - 1, true);
            CHECK.due("M = 0: solve()", x.solve(), r);
            for (int k = 0; k < r; k++) {
                CHECK.due("M = 0: support(" + k + ")", x.support(k), 1 << k);
                for (int j = 0; j < 8; j++) {
                    CHECK.due("M = 0: rate(" + k + ", " + j + ")", x.rate(k, j), j == k ? 1 : 0);
                }
            }
        }
    }

    private static void promise7WithoutModes() {
        CHECK.due("all make: solve()", Networks.of(new int[][] {{1, 2, 3}}, 0).solve(), 0);
        CHECK.due("free columns: solve()", Networks.of(new int[][] {{1, 0}, {0, 1}}, 3).solve(), 0);
        CHECK.due("one column: solve()", Networks.of(new int[][] {{0}, {0}, {9}}, 1).solve(), 0);
    }

    private static void promise7Directions() {
        int[][] rows = {{2, 4, 0}, {0, -4, -6}};
        FluxModes x = Networks.of(rows, 7);
        CHECK.due("all reversible: solve()", x.solve(), 1);
        isMode(x, 0, 7, 6, -3, 2);
        x = Networks.of(rows, 5);
        CHECK.due("middle one way: solve()", x.solve(), 1);
        isMode(x, 0, 7, -6, 3, -2);
        x = Networks.of(rows, 2);
        CHECK.due("ends one way: solve()", x.solve(), 1);
        isMode(x, 0, 7, 6, -3, 2);
        x = Networks.of(rows, 3);
        CHECK.due("last one way: solve()", x.solve(), 1);
        isMode(x, 0, 7, 6, -3, 2);
        x = Networks.of(rows, 4);
        CHECK.due("first and middle against each other: solve()", x.solve(), 0);
        x = Networks.of(rows, 0);
        CHECK.due("all one way: solve()", x.solve(), 0);
    }

    private static void promise7Most() {
        FluxModes x = Networks.seventy();
        CHECK.due("seventy: solve()", x.solve(), 70);
        int before = 0;
        for (int k = 0; k < 70; k++) {
            int support = x.support(k);
            CHECK.due("seventy: size of support(" + k + ")", Integer.bitCount(support), 4);
            CHECK.due("seventy: support(" + k + ") rises", support > before, true);
            int least = Integer.numberOfTrailingZeros(support);
            CHECK.due("seventy: rate(" + k + ", " + least + ") is positive", x.rate(k, least) > 0, true);
            before = support;
        }
        CHECK.due("seventy: support(69)", x.support(69), 240);
        CHECK.due("seventy: support(70)", x.support(70), 0);
        CHECK.due("seventy: solve() again", x.solve(), 70);
    }

    /** Rates near the largest that can be, as quotients of determinants taken by another program. */
    private static void promise7LargeRates() {
        FluxModes x = Networks.large();
        CHECK.due("large: solve()", x.solve(), 1);
        isMode(x, 0, 127, 80458119, 35819029, 12096036, -6333273, -8160129, -16234866, 3278520);
        x.reversible(3, false);
        CHECK.due("large, turned: solve()", x.solve(), 1);
        isMode(x, 0, 127, -80458119, -35819029, -12096036, 6333273, 8160129, 16234866, -3278520);
        x.reversible(6, false);
        CHECK.due("large, against itself: solve()", x.solve(), 0);

        // Here all determinants have 2916 in common.
        x = Networks.of(new int[][] {
            {9, 9, 9, 9, 9, 9, 1},
            {9, -9, 9, -9, 9, -9, 0},
            {9, 9, -9, -9, 8, 9, 0},
            {9, -9, -9, 9, 9, 8, 0},
            {-9, 9, 9, 9, 9, 9, 0},
            {9, 9, 9, 9, -9, -9, 0}}, 127);
        CHECK.due("large, with a divisor: solve()", x.solve(), 1);
        isMode(x, 0, 127, 324, -359, 630, -271, -630, 954, -5832);
    }

    private static void promise8Modes() {
        FluxModes x = Networks.triangle();
        CHECK.due("modes() before", x.modes(), 0);
        CHECK.due("modes() as solved", x.solve(), x.modes());
        CHECK.due("modes() after", x.modes(), 3);
        x.reversible(2, false);
        CHECK.due("modes() of the old list", x.modes(), 3);
        x.solve();
        CHECK.due("modes() of the new list", x.modes(), 2);
        x = Networks.seventy();
        x.solve();
        CHECK.due("modes() of the longest list", x.modes(), 70);
    }

    private static void promise9Support() {
        FluxModes x = Networks.triangle();
        x.solve();
        int[] want = {3, 5, 6, 0, 0};
        for (int k = 0; k < want.length; k++) {
            CHECK.due("support(" + k + ")", x.support(k), want[k]);
        }
        for (int odd : Networks.ODD) {
            CHECK.due("support(" + odd + ")", x.support(odd), 0);
        }
        x.reversible(2, false);
        x.solve();
        CHECK.due("support(2) of a shorter list", x.support(2), 0);
    }

    private static void promise10Rate() {
        FluxModes x = Networks.triangle();
        x.solve();
        isMode(x, 0, 3, 3, 2, 0);
        isMode(x, 1, 5, 2, 0, -1);
        isMode(x, 2, 6, 0, 4, 3);
        for (int odd : Networks.ODD) {
            CHECK.due("rate(" + odd + ", 0)", x.rate(odd, 0), 0);
            CHECK.due("rate(0, " + odd + ")", x.rate(0, odd), 0);
            CHECK.due("rate(" + odd + ", " + odd + ")", x.rate(odd, odd), 0);
        }
        CHECK.due("rate(3, 0)", x.rate(3, 0), 0);
        CHECK.due("rate(1, -8)", x.rate(1, -8), 0);
        x.reversible(2, false);
        x.solve();
        CHECK.due("rate(2, 1) of a shorter list", x.rate(2, 1), 0);

        // What a larger network left behind is not the smaller one's.
        x = Networks.seventy();
        x.solve();
        x.size(0, 2);
        x.solve();
        isMode(x, 0, 1, 1, 0);
        isMode(x, 1, 2, 0, 1);
    }

    private static void promise11Within() {
        FluxModes x = Networks.triangle();
        CHECK.due("within(-1) before", x.within(-1), 0);
        x.solve();
        int[] want = {0, 0, 0, 1, 0, 1, 1, 3};
        for (int set = 0; set < want.length; set++) {
            CHECK.due("within(" + set + ")", x.within(set), want[set]);
            CHECK.due("within(" + (set | 8) + ")", x.within(set | 8), want[set]);
            CHECK.due("within() with high bits and " + set, x.within(set | 0xFFFFFF00), want[set]);
            CHECK.due("within() with the sign bit and " + set, x.within(set | 0x80000000), want[set]);
        }
        CHECK.due("within(-1)", x.within(-1), 3);
        CHECK.due("within(0xFFFFFF00)", x.within(0xFFFFFF00), 0);
    }

    private static void promise12Running() {
        FluxModes x = Networks.triangle();
        CHECK.due("running(0, 1) before", x.running(0, 1), 0);
        x.solve();
        int[] others = {0, 2, -2, 7, Integer.MIN_VALUE, Integer.MAX_VALUE};
        int[] positive = {2, 2, 1, 0, 0, 0, 0, 0};
        int[] negative = {0, 0, 1, 0, 0, 0, 0, 0};
        for (int j = 0; j < 8; j++) {
            CHECK.due("running(" + j + ", 1)", x.running(j, 1), positive[j]);
            CHECK.due("running(" + j + ", -1)", x.running(j, -1), negative[j]);
            for (int how : others) {
                CHECK.due("running(" + j + ", " + how + ")", x.running(j, how), positive[j] + negative[j]);
            }
        }
        for (int odd : Networks.ODD) {
            for (int how = -1; how <= 1; how++) {
                CHECK.due("running(" + odd + ", " + how + ")", x.running(odd, how), 0);
            }
        }
    }

    private static void promise13Shortest() {
        // Reaction 0 has modes of two and of three reactions, the longer support standing first.
        FluxModes x = Networks.of(new int[][] {{1, -1, 0, -1, 0}, {0, 1, -1, 0, 0}, {0, 0, 0, 0, 7}}, 0);
        CHECK.due("shortest(0) before", x.shortest(0), 0);
        CHECK.due("branches: solve()", x.solve(), 2);
        CHECK.due("branches: support(0)", x.support(0), 7);
        CHECK.due("branches: support(1)", x.support(1), 9);
        int[] want = {2, 3, 3, 2, 0, 0, 0, 0};
        for (int j = 0; j < want.length; j++) {
            CHECK.due("shortest(" + j + ")", x.shortest(j), want[j]);
        }
        for (int odd : Networks.ODD) {
            CHECK.due("shortest(" + odd + ")", x.shortest(odd), 0);
        }

        // Here the shorter support stands first.
        x = Networks.of(new int[][] {{1, -1, -1, 0}, {0, 0, 1, -1}}, 0);
        x.solve();
        CHECK.due("other branches: shortest(0)", x.shortest(0), 2);
        CHECK.due("other branches: shortest(3)", x.shortest(3), 3);
    }

    private static void theListStays() {
        FluxModes x = Networks.triangle();
        x.solve();
        x.enter(0, 0, -2);
        x.enter(0, 1, 0);
        x.reversible(0, true);
        x.reversible(2, false);
        x.size(9, 9);
        CHECK.due("changed: modes()", x.modes(), 3);
        isMode(x, 0, 3, 3, 2, 0);
        isMode(x, 1, 5, 2, 0, -1);
        isMode(x, 2, 6, 0, 4, 3);
        CHECK.due("changed: within(5)", x.within(5), 1);
        CHECK.due("changed: running(2, -1)", x.running(2, -1), 1);
        CHECK.due("changed: shortest(1)", x.shortest(1), 2);
        CHECK.due("changed: solve()", x.solve(), 2);
        isMode(x, 0, 2, 0, 1, 0);
        isMode(x, 1, 5, 2, 0, 1);
    }

    private static void theListIsEmpty() {
        FluxModes x = Networks.triangle();
        x.solve();
        x.size(1, 3);
        CHECK.due("size: modes()", x.modes(), 0);
        for (int k = -1; k <= 3; k++) {
            CHECK.due("size: support(" + k + ")", x.support(k), 0);
            CHECK.due("size: rate(" + k + ", 0)", x.rate(k, 0), 0);
        }
        for (int j = 0; j < 8; j++) {
            CHECK.due("size: running(" + j + ", 0)", x.running(j, 0), 0);
            CHECK.due("size: shortest(" + j + ")", x.shortest(j), 0);
        }
        CHECK.due("size: within(-1)", x.within(-1), 0);
    }

    /** Looks at all eight rates: those that are not told are 0. */
    private static void isMode(FluxModes x, int k, int support, int... rates) {
        CHECK.due("support(" + k + ")", x.support(k), support);
        for (int j = 0; j < 8; j++) {
            CHECK.due("rate(" + k + ", " + j + ")", x.rate(k, j), j < rates.length ? rates[j] : 0);
        }
    }
}
