import java.util.ArrayList;
import java.util.List;
import java.util.function.Supplier;

/** A way to make an object that has M metabolites and R reactions; at most 70 calls. */
record State(String name, int m, int r, Supplier<FluxModes> made) {
    /** The least and the greatest network, an empty list and the longest, and a list that the network left behind. */
    static List<State> all() {
        return List.of(
            new State("new", 0, 1, FluxModes::new),
            new State("new and solved", 0, 1, () -> Networks.solved(new FluxModes())),
            new State("triangle", 1, 3, Networks::triangle),
            new State("triangle solved", 1, 3, () -> Networks.solved(Networks.triangle())),
            new State("triangle changed since", 1, 3, State::changedSince),
            new State("triangle sized since", 2, 2, State::sizedSince),
            new State("chain solved", 6, 7, () -> Networks.solved(Networks.chain())),
            new State("full", 6, 8, Networks::full),
            new State("full solved", 6, 8, () -> Networks.solved(Networks.full())),
            new State("seventy solved", 3, 8, () -> Networks.solved(Networks.seventy())));
    }

    /** All objects of these are new, were sized since solve(), or were solved without finding a mode. */
    static List<State> withEmptyList() {
        return List.of(
            new State("never solved", 0, 1, FluxModes::new),
            new State("never solved, with entries", 3, 8, Networks::seventy),
            new State("sized since", 2, 2, State::sizedSince),
            new State("solved without a mode", 1, 3, State::withoutMode),
            new State("sized to what it was", 3, 8, State::sizedAgain));
    }

    static FluxModes changedSince() {
        FluxModes x = Networks.solved(Networks.triangle());
        x.enter(0, 0, -2);
        x.enter(0, 1, 0);
        x.reversible(0, true);
        x.reversible(2, false);
        return x;
    }

    private static FluxModes sizedSince() {
        FluxModes x = Networks.solved(Networks.triangle());
        x.size(2, 2);
        x.enter(1, 1, 5);
        x.reversible(1, true);
        return x;
    }

    private static FluxModes withoutMode() {
        FluxModes x = Networks.solved(Networks.triangle());
        x.reversible(2, false);
        x.enter(0, 1, 3);
        x.solve();
        return x;
    }

    private static FluxModes sizedAgain() {
        FluxModes x = Networks.solved(Networks.seventy());
        x.size(3, 8);
        return x;
    }

    /** Calls with a number that is not one that is named with it: each answers false or 0. */
    List<Call> refused() {
        List<Call> calls = new ArrayList<>();
        refusedSizes(calls);
        refusedEntries(calls);
        for (int j : Numbers.outside(0, r - 1)) {
            calls.add(Call.reversible(j, true));
            calls.add(Call.reversible(j, false));
        }
        for (int j : Numbers.outside(0, 7)) {
            calls.add(Call.rate(0, j));
            calls.add(Call.running(j, 1));
            calls.add(Call.shortest(j));
        }
        for (int k : Numbers.outside(0, 69)) {
            calls.add(Call.support(k));
            calls.add(Call.rate(k, 0));
        }
        return calls;
    }

    private void refusedSizes(List<Call> calls) {
        for (int wrong : Numbers.outside(0, 6)) {
            calls.add(Call.size(wrong, r));
            calls.add(Call.size(wrong, 0));
        }
        for (int wrong : Numbers.outside(1, 8)) {
            calls.add(Call.size(m, wrong));
            calls.add(Call.size(7, wrong));
        }
    }

    private void refusedEntries(List<Call> calls) {
        for (int i : Numbers.outside(0, m - 1)) {
            calls.add(Call.enter(i, 0, 1));
            calls.add(Call.enter(i, r - 1, 1));
            calls.add(Call.entry(i, 0));
        }
        for (int j : Numbers.outside(0, r - 1)) {
            calls.add(Call.enter(0, j, 1));
            calls.add(Call.enter(m - 1, j, 1));
            calls.add(Call.entry(m - 1, j));
        }
        for (int v : Numbers.outside(-9, 9)) {
            calls.add(Call.enter(m - 1, r - 1, v));
        }
        // In rows of eight these two stand where another entry does.
        calls.add(Call.enter(1, -8, 1));
        calls.add(Call.enter(-1, 8, 1));
    }
}
