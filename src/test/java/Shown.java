import java.util.ArrayList;
import java.util.Arrays;
import java.util.List;
import java.util.function.Supplier;

/** All that later calls show of an object, so that a call that changes nothing can be told from one that does. */
final class Shown {
    /** With the calls that make an object this stays under the 512 that it is used for. */
    private static final int CALLS_AN_OBJECT = 400;
    private static final List<Call> STANDING = standing();
    private static final List<Call> BORDERS = borders();

    private final List<String> calls = new ArrayList<>();
    private final long[] answers = new long[2 * STANDING.size() + BORDERS.size()];

    /** Asks as many new objects of this kind as are needed. */
    Shown(Supplier<FluxModes> made) {
        put(made, STANDING, "then ");
        put(() -> Networks.solved(made.get()), STANDING, "then solve() and ");
        put(made, BORDERS, "then ");
    }

    private void put(Supplier<FluxModes> made, List<Call> asked, String when) {
        FluxModes x = null;
        for (int n = 0; n < asked.size(); n++) {
            if (n % CALLS_AN_OBJECT == 0) {
                x = made.get();
            }
            answers[calls.size()] = asked.get(n).on(x);
            calls.add(when + asked.get(n).text());
        }
    }

    /** Looks whether all answers are those that another one had. */
    void same(Check check, String when, Shown other) {
        int at = Arrays.mismatch(answers, other.answers);
        if (at < 0) {
            check.due(when, true, true);
        } else {
            check.due(when + ", " + calls.get(at), answers[at], other.answers[at]);
        }
    }

    private static List<Call> standing() {
        List<Call> asked = new ArrayList<>();
        asked.add(Call.modes());
        asked.add(Call.reversibles());
        for (int i = -1; i <= 6; i++) {
            for (int j = -1; j <= 8; j++) {
                asked.add(Call.entry(i, j));
            }
        }
        for (int k = -1; k <= 70; k++) {
            asked.add(Call.support(k));
            for (int j = -1; j <= 8; j++) {
                asked.add(Call.rate(k, j));
            }
        }
        for (int set = -1; set <= 256; set++) {
            asked.add(Call.within(set));
        }
        for (int j = -1; j <= 8; j++) {
            asked.add(Call.shortest(j));
            for (int how = -2; how <= 2; how++) {
                asked.add(Call.running(j, how));
            }
        }
        return asked;
    }

    /** Calls that are done or refused by what M and R are. */
    private static List<Call> borders() {
        List<Call> asked = new ArrayList<>();
        for (int j = -1; j <= 8; j++) {
            asked.add(Call.reversible(j, true));
            for (int i = -1; i <= 6; i++) {
                asked.add(Call.enter(i, j, 1));
            }
        }
        return asked;
    }
}
