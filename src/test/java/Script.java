import java.util.ArrayList;
import java.util.Arrays;
import java.util.List;
import java.util.Map;

/**
 * Makes calls that are written line by line, on a new object: "deposit 1 100 = 1" is a call and the
 * answer that is due; without "=" any answer but an error is. A number ahead of a call is how often it
 * is made; 'append "0:1"' appends each sign, 'check "0:1" = 1' clears the text ahead of that, "new"
 * makes another object, and a line with "#" ahead is a comment.
 *
 * Besides the answers it sees to it that calls that answer an error, or only look, change nothing, and
 * that undo() takes back each action that is written without a number ahead.
 */
final class Script {
    private static final Map<String, Integer> NAMES = Map.of(
            "INVALID", -100001, "ILLEGAL", -100002, "FULL", -100003, "NONE", -100009,
            "MIN", Integer.MIN_VALUE, "MAX", Integer.MAX_VALUE);
    private static final int MOST_CALLS = 512;
    private static final int MOST_STATES = 5;

    private final Due due;
    private OrphanChain chain;
    private int made = 0;
    private final List<Call> changing = new ArrayList<>();
    private final List<Call> idle = new ArrayList<>();

    Script(Due due) {
        this.due = due;
    }

    void run(String lines) {
        begin();
        for (String line : lines.split("\n")) {
            String words = line.strip();
            if (words.equals("new")) {
                settle();
                begin();
            } else if (!words.isEmpty() && !words.startsWith("#")) {
                line(words);
            }
        }
        settle();
    }

    private void begin() {
        chain = new OrphanChain();
        made = 0;
        changing.clear();
    }

    private void line(String words) {
        int behind = words.indexOf(" = ");
        String call = behind < 0 ? words : words.substring(0, behind);
        Integer want = behind < 0 ? null : Integer.valueOf(number(words.substring(behind + 3)));
        if (call.contains("\"")) {
            signs(call, want);
            return;
        }
        String[] parts = call.split(" +");
        boolean often = Character.isDigit(parts[0].charAt(0));
        int times = often ? number(parts[0]) : 1;
        int at = often ? 1 : 0;
        int[] args = Arrays.stream(parts, at + 1, parts.length).mapToInt(Script::number).toArray();
        if (args.length != Call.ARGUMENTS.getOrDefault(parts[at], -1)) {
            throw new IllegalArgumentException(words);
        }
        for (int time = 0; time < times; time++) {
            make(new Call(parts[at], args), want, !often);
        }
    }

    private void signs(String call, Integer want) {
        boolean check = call.startsWith("check ");
        String text = call.substring(call.indexOf('"') + 1, call.lastIndexOf('"'));
        if (check) {
            make(new Call("clearText"), null, false);
        }
        for (char sign : text.toCharArray()) {
            make(new Call("append", sign), null, false);
        }
        if (check) {
            make(new Call("check"), want, false);
        }
    }

    private static int number(String word) {
        Integer named = NAMES.get(word);
        return named == null ? Integer.parseInt(word) : named;
    }

    private static boolean isError(int answer) {
        return answer == -100001 || answer == -100002 || answer == -100003;
    }

    private void make(Call call, Integer want, boolean watched) {
        int got = call.answer(chain);
        made++;
        due.holds("an object is used for at most " + MOST_CALLS + " calls", made <= MOST_CALLS);
        if (want == null) {
            due.holds(call + ", which answered " + got + ", is no error", !isError(got));
        } else {
            due.is(call.toString(), got, want);
        }
        if (call.isLook() || isError(got)) {
            idle.add(call);
            return;
        }
        settle();
        if (watched && call.isAction()) {
            canBeUndone(call);
        }
        changing.add(call);
    }

    private void canBeUndone(Call call) {
        List<Call> then = with(changing, List.of(call));
        List<Call> back = with(then, List.of(new Call("undo")));
        int states = Whole.behind(changing).count(13);
        due.is(call + ", then count(13)", Whole.behind(then).count(13), Math.min(MOST_STATES, states + 1));
        due.is(call + ", then undo()", Whole.behind(then).undo(), Math.min(MOST_STATES - 1, states));
        if (back.size() <= Whole.MOST_CALLS) {
            due.alike(call + ", undone", Whole.state(back), Whole.state(changing));
        }
    }

    /** The looks and refused calls since the last change have changed nothing. */
    private void settle() {
        List<Call> all = with(changing, idle);
        if (!idle.isEmpty() && all.size() <= Whole.MOST_CALLS) {
            due.alike("all that can be seen behind " + idle, Whole.of(all), Whole.of(changing));
        }
        idle.clear();
    }

    private static List<Call> with(List<Call> calls, List<Call> more) {
        List<Call> all = new ArrayList<>(calls);
        all.addAll(more);
        return all;
    }
}
