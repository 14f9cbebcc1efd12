/** Counts and prints the answers that are not the ones due. */
final class Check {
    private final String name;
    private String sentence = "";
    private int looked = 0;
    private int wrong = 0;

    Check(String name) {
        this.name = name;
    }

    /** Runs the test of one sentence of the document; one that looks at no answer is itself wrong. */
    void sentence(String words, Runnable test) {
        sentence = " (" + words + ")";
        int before = looked;
        test.run();
        if (looked == before) {
            due("the test looked at no answer", true, false);
        }
        sentence = "";
    }

    void due(String call, long got, long want) {
        looked++;
        if (got != want) {
            wrong++;
            System.out.println(name + sentence + ": " + call + " answered " + got + ", due is " + want);
        }
    }

    void due(String call, boolean got, boolean want) {
        due(call, got ? 1L : 0L, want ? 1L : 0L);
    }

    void due(FluxModes x, Call call, long want) {
        due(call.text(), call.on(x), want);
    }

    void due(String when, FluxModes x, Call call, long want) {
        due(when + ": " + call.text(), call.on(x), want);
    }

    /** Ends the program with 1 if an answer was wrong, or if none was looked at. */
    void end() {
        System.out.println(name + ": " + looked + " answers looked at, " + wrong + " wrong");
        if (wrong != 0 || looked == 0) {
            System.exit(1);
        }
    }
}
