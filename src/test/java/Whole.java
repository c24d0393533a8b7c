import java.util.ArrayList;
import java.util.List;

/**
 * Writes down all that can be seen of an object behind some calls. As an object is used for no more
 * than 512 calls, each part is seen on a new object, for which the same calls are made.
 */
final class Whole {
    /** So many calls leave room for the longest part. */
    static final int MOST_CALLS = 250;
    private static final int STATES = 5;
    private static final int SLOTS = 2;

    private Whole() {
    }

    /** All of it: the state, the text, and the states of the history. */
    static String of(List<Call> calls) {
        StringBuilder seen = new StringBuilder(state(calls));
        OrphanChain chain = behind(calls);
        seen.append("text ").append(chain.count(14)).append(' ').append(chain.check()).append('\n');
        seen.append("states ").append(chain.count(13)).append('\n');
        List<Call> back = new ArrayList<>(calls);
        for (int step = 1; step <= STATES; step++) {
            back.add(new Call("undo"));
            seen.append("back ").append(last(back)).append(numbers(back));
            slots(seen, back);
        }
        return seen.toString();
    }

    /** A state: everything but the text and the history. */
    static String state(List<Call> calls) {
        StringBuilder seen = new StringBuilder(numbers(calls));
        entries(seen, calls, 0, 1, 2, 3);
        entries(seen, calls, 4, 5, 8);
        slots(seen, calls);
        return seen.toString();
    }

    /** A new object, for which the calls are made. */
    static OrphanChain behind(List<Call> calls) {
        OrphanChain chain = new OrphanChain();
        for (Call call : calls) {
            call.answer(chain);
        }
        return chain;
    }

    private static int last(List<Call> calls) {
        int end = calls.size() - 1;
        return calls.get(end).answer(behind(calls.subList(0, end)));
    }

    private static void slots(StringBuilder seen, List<Call> calls) {
        for (int slot = 0; slot < SLOTS; slot++) {
            List<Call> then = new ArrayList<>(calls);
            then.add(new Call("restore", slot));
            seen.append("slot ").append(last(then)).append(' ').append(numbers(then));
        }
    }

    private static String numbers(List<Call> calls) {
        OrphanChain chain = behind(calls);
        StringBuilder seen = new StringBuilder("counts");
        for (int what = 0; what <= 12; what++) {
            seen.append(' ').append(chain.count(what));
        }
        seen.append(" orders ").append(chain.orders()).append(" chain");
        for (int place = 0; place < chain.count(2); place++) {
            seen.append(' ').append(chain.onChain(place));
        }
        table(seen.append(" branches"), chain, "branch", chain.count(3), 5);
        table(seen.append(" failing"), chain, "failing", chain.count(3), 1);
        table(seen.append(" seals"), chain, "sealed", chain.count(7), 2);
        table(seen.append(" peaks"), chain, "peak", 6, 1);
        return seen.append('\n').toString();
    }

    private static void table(StringBuilder seen, OrphanChain chain, String name, int rows, int greatest) {
        for (int row = 0; row < rows; row++) {
            for (int what = 0; what <= greatest; what++) {
                seen.append(' ').append(new Call(name, row, what).answer(chain));
            }
        }
    }

    private static void entries(StringBuilder seen, List<Call> calls, int... fields) {
        OrphanChain chain = behind(calls);
        int entries = chain.count(0);
        for (int entry = 0; entry < entries; entry++) {
            seen.append("entry ").append(entry);
            for (int what : fields) {
                seen.append(' ').append(chain.entry(entry, what));
            }
            seen.append('\n');
        }
    }
}
