import java.util.function.IntSupplier;

/** Compares answers with those that are due, and prints each one that is not. */
final class Due {
    private static final int MOST_SECONDS = 300;

    private final String name;
    private volatile String place = "";
    private int passed = 0;
    private int failed = 0;

    Due(String name) {
        this.name = name;
        Thread watch = new Thread(this::endLate);
        watch.setDaemon(true);
        watch.start();
    }

    /** A call that does not end is a failure, too. */
    private void endLate() {
        try {
            Thread.sleep(MOST_SECONDS * 1000L);
            System.out.println(name + ": " + place + "no end in " + MOST_SECONDS + " seconds");
            Runtime.getRuntime().halt(1);
        } catch (InterruptedException ended) {
            Thread.currentThread().interrupt();
        }
    }

    /** What is tested from now on, as it is named when an answer is not the one that is due. */
    void at(String newPlace) {
        place = newPlace + ": ";
    }

    void is(String call, long got, long want) {
        same(call, Long.toString(got), Long.toString(want));
    }

    void same(String call, String got, String want) {
        if (got.equals(want)) {
            passed++;
        } else {
            failed++;
            System.out.println(name + ": " + place + call + " answered " + got + ", due is " + want);
        }
    }

    /** Compares line by line, and tells the first line that is not the same. */
    void alike(String call, String got, String want) {
        String[] lines = got.split("\n");
        String[] due = want.split("\n");
        int line = 0;
        while (line < lines.length - 1 && line < due.length - 1 && lines[line].equals(due[line])) {
            line++;
        }
        boolean rest = got.equals(want);
        same(call, rest ? "" : lines[line] + " ..", rest ? "" : due[line] + " .. (line " + line + ")");
    }

    void holds(String what, boolean that) {
        same(what, Boolean.toString(that), "true");
    }

    /** A call that answers an error code and changes nothing that can be seen. */
    void refused(String call, OrphanChain chain, IntSupplier answer, int code) {
        String before = Look.at(chain);
        is(call, answer.getAsInt(), code);
        same(call + ", then all that can be seen", Look.at(chain), before);
    }

    /** A call that records the state before it, and is taken back by undo(). */
    void action(String call, OrphanChain chain, IntSupplier answer, int want) {
        String before = Look.at(chain);
        int states = chain.count(13);
        is(call, answer.getAsInt(), want);
        is(call + ", then count(13)", chain.count(13), Math.min(5, states + 1));
        if (states < 5) {
            is(call + ", then undo()", chain.undo(), states);
            same(call + ", undone", Look.at(chain), before);
            is(call + ", once more", answer.getAsInt(), want);
        }
    }

    void end() {
        System.out.println(name + ": " + passed + " answers as due, " + failed + " not");
        if (failed != 0) {
            System.exit(1);
        }
    }
}
