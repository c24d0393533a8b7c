import java.util.function.IntSupplier;

/** Compares answers with those that are due, and prints each one that is not. */
final class Due {
    private final String name;
    private String place = "";
    private int passed = 0;
    private int failed = 0;

    Due(String name) {
        this.name = name;
    }

    /** What is tested from now on, as it is named when an answer is not the one that is due. */
    void at(String newPlace) {
        place = newPlace + ": ";
    }

    void is(String call, long got, long want) {
        same(call, Long.toString(got), Long.toString(want));
    }

    void same(String call, String got, String want) {
        if (got.equals(want)) {
            passed++;
        } else {
            failed++;
            System.out.println(name + ": " + place + call + " answered " + got + ", due is " + want);
        }
    }

    void holds(String what, boolean that) {
        same(what, Boolean.toString(that), "true");
    }

    /** A call that answers an error code and changes nothing that can be seen. */
    void refused(String call, OrphanChain chain, IntSupplier answer, int code) {
        String before = Look.at(chain);
        is(call, answer.getAsInt(), code);
        same(call + ", then all that can be seen", Look.at(chain), before);
    }

    /** A call that records the state before it, and is taken back by undo(). */
    void action(String call, OrphanChain chain, IntSupplier answer, int want) {
        String before = Look.at(chain);
        int states = chain.count(13);
        is(call, answer.getAsInt(), want);
        is(call + ", then count(13)", chain.count(13), Math.min(5, states + 1));
        if (states < 5) {
            is(call + ", then undo()", chain.undo(), states);
            same(call + ", undone", Look.at(chain), before);
            is(call + ", once more", answer.getAsInt(), want);
        }
    }

    void end() {
        System.out.println(name + ": " + passed + " answers as due, " + failed + " not");
        if (failed != 0) {
            System.exit(1);
        }
    }
}
