import java.util.function.ToLongFunction;

/** One call with its arguments, for any object; a boolean counts 1 or 0. */
record Call(String text, ToLongFunction<FluxModes> ask) {
    long on(FluxModes x) {
        return ask.applyAsLong(x);
    }

    static Call size(int m, int r) {
        return new Call("size(" + m + ", " + r + ")", x -> number(x.size(m, r)));
    }

    static Call enter(int i, int j, int v) {
        return new Call("enter(" + i + ", " + j + ", " + v + ")", x -> number(x.enter(i, j, v)));
    }

    static Call entry(int i, int j) {
        return new Call("entry(" + i + ", " + j + ")", x -> x.entry(i, j));
    }

    static Call reversible(int j, boolean on) {
        return new Call("reversible(" + j + ", " + on + ")", x -> number(x.reversible(j, on)));
    }

    static Call reversibles() {
        return new Call("reversibles()", FluxModes::reversibles);
    }

    static Call solve() {
        return new Call("solve()", FluxModes::solve);
    }

    static Call modes() {
        return new Call("modes()", FluxModes::modes);
    }

    static Call support(int k) {
        return new Call("support(" + k + ")", x -> x.support(k));
    }

    static Call rate(int k, int j) {
        return new Call("rate(" + k + ", " + j + ")", x -> x.rate(k, j));
    }

    static Call within(int set) {
        return new Call("within(" + set + ")", x -> x.within(set));
    }

    static Call running(int j, int how) {
        return new Call("running(" + j + ", " + how + ")", x -> x.running(j, how));
    }

    static Call shortest(int j) {
        return new Call("shortest(" + j + ")", x -> x.shortest(j));
    }

    private static long number(boolean answer) {
        return answer ? 1 : 0;
    }
}
